/-! What a law tells: pure. -/
theorem p_iftI {c v : Int → Int} {o : Bool} {h k i l i1 l1 : Int} {A B : p_D} {K : p_K} (e : p_ift c v o h A B k i l = .ok (i1, l1, K)) : (c i = 4 ∧ ∃ T, p_t c v o 2100 3 0 (i + 1) l p_z false = .ok (i1, l1, T) ∧ K = (h, A, B, k, some T)) ∨ (c i ≠ 4 ∧ i1 = i ∧ l1 = l ∧ K = (h, A, B, k, none)) := by
  unfold p_ift at e
  by_cases q : c i = 4
  · rw [if_pos q] at e
    revert e
    cases p_t c v o 2100 3 0 (i + 1) l p_z false with
    | error x => intro e; cases e
    | ok z =>
      obtain ⟨i2, l2, T⟩ := z
      intro e
      injection e with e
      injection e with e1 e2
      injection e2 with e2 e3
      refine Or.inl ⟨q, T, by rw [e1, e2], e3.symm⟩
  · rw [if_neg q] at e
    injection e with e
    injection e with e1 e2
    injection e2 with e2 e3
    exact Or.inr ⟨q, e1.symm, e2.symm, e3.symm⟩
theorem p_oneLi {c v : Int → Int} {i l i1 l1 : Int} {K : p_K} (e : p_one c v false i l = .ok (i1, l1, K)) : ((c i = 1 ∨ c i = 2) ∧ ∃ i2 l2 A, p_s c v false 2100 3 0 (i + 1) l p_z = .ok (i2, l2, A) ∧ p_ift c v false (c i - 1) A p_z 1 i2 l2 = .ok (i1, l1, K)) ∨ (c i = 3 ∧ p_ift c v false 2 p_z p_z 1 (i + 1) l = .ok (i1, l1, K)) := by
  rw [p_oneL] at e
  by_cases q : c i = 1 ∨ c i = 2
  · rw [if_pos q] at e
    revert e
    cases p_s c v false 2100 3 0 (i + 1) l p_z with
    | error x => intro e; cases e
    | ok z =>
      obtain ⟨i2, l2, A⟩ := z
      intro e
      exact Or.inl ⟨q, i2, l2, A, rfl, e⟩
  · rw [if_neg q] at e
    by_cases q2 : c i = 3
    · rw [if_pos q2] at e; exact Or.inr ⟨q2, e⟩
    · rw [if_neg q2] at e; cases e
theorem p_restI {c v : Int → Int} {o : Bool} {n : Int} {f : Nat} {k i l : Int} {acc Ks : List p_K} (e : p_rest c v o n (f + 1) k i l acc = .ok Ks) : (c i = 159 ∧ k ≠ 12 ∧ ∃ i1 l1 K, p_one c v o (i + 1) l = .ok (i1, l1, K) ∧ p_rest c v o n f (k + 1) i1 l1 (acc ++ [K]) = .ok Ks) ∨ (c i ≠ 159 ∧ ¬ i < n ∧ Ks = acc) := by
  rw [p_rest] at e
  by_cases q : c i = 159
  · rw [if_pos q] at e
    by_cases q2 : k = 12
    · rw [if_pos q2] at e; cases e
    rw [if_neg q2] at e
    revert e
    cases p_one c v o (i + 1) l with
    | error x => intro e; cases e
    | ok z =>
      obtain ⟨i1, l1, K⟩ := z
      intro e
      exact Or.inl ⟨q, q2, i1, l1, K, rfl, e⟩
  · rw [if_neg q] at e
    by_cases q2 : i < n
    · rw [if_pos q2] at e; cases e
    · rw [if_neg q2] at e
      injection e with e
      exact Or.inr ⟨q, q2, e.symm⟩
theorem p_nxI {c v : Int → Int} {o : Bool} {n : Int} {f : Nat} {k i l : Int} {acc Ks : List p_K} (e : p_nx c v o n f k i l acc = .ok Ks) : ∃ i1 l1 K, p_one c v o i l = .ok (i1, l1, K) ∧ p_rest c v o n f (k + 1) i1 l1 (acc ++ [K]) = .ok Ks := by
  unfold p_nx at e
  revert e
  cases p_one c v o i l with
  | error x => intro e; cases e
  | ok z =>
    obtain ⟨i1, l1, K⟩ := z
    intro e
    exact ⟨i1, l1, K, rfl, e⟩
/-- whether a clause holds, and what it tells -/
def k_hd (T : Option p_D) (E : Int → Int) : Prop := ∀ t, T = some t → t E = some 1
def k_vl2 (K : p_K) (E : Int → Int) : Option Int := if K.1 = 2 then some 1 else K.2.1 E
def l_cl (x : Int) : Int := max 0 (min 100 x)
noncomputable def l_st (h : Int) (E : Int → Int) (a : Int) (K : p_K) : Int := @ite _ (K.1 = h ∧ k_hd K.2.2.2.2 E) (Classical.propDecidable _) (match k_vl2 K E with
  | some x => l_cl x
  | none => a) a
noncomputable def l_tl (Ks : List p_K) (h wo : Int) (E : Int → Int) : Int := Ks.foldl (l_st h E) wo
theorem l_st1 {h a x : Int} {E : Int → Int} {K : p_K} (h1 : K.1 = h) (h2 : k_hd K.2.2.2.2 E) (h3 : k_vl2 K E = some x) : l_st h E a K = l_cl x := by
  unfold l_st; rw [if_pos ⟨h1, h2⟩, h3]
theorem l_st0 {h a : Int} {E : Int → Int} {K : p_K} (h1 : ¬ (K.1 = h ∧ k_hd K.2.2.2.2 E ∧ k_vl2 K E ≠ none)) : l_st h E a K = a := by
  unfold l_st
  by_cases q : K.1 = h ∧ k_hd K.2.2.2.2 E
  · rw [if_pos q]
    cases hv : k_vl2 K E with
    | none => rfl
    | some x => exact absurd ⟨q.1, q.2, by rw [hv]; exact fun z => by cases z⟩ h1
  · rw [if_neg q]
theorem l_str {h a : Int} {E : Int → Int} {K : p_K} (ha : 0 ≤ a ∧ a ≤ 100) : 0 ≤ l_st h E a K ∧ l_st h E a K ≤ 100 := by
  by_cases q : K.1 = h ∧ k_hd K.2.2.2.2 E
  · cases hv : k_vl2 K E with
    | none => rw [l_st0 (fun z => z.2.2 hv)]; exact ha
    | some x => rw [l_st1 q.1 q.2 hv]; unfold l_cl; omega
  · rw [l_st0 (fun z => q ⟨z.1, z.2.1⟩)]; exact ha
theorem l_tlr {h : Int} {E : Int → Int} : ∀ {Ks : List p_K} {a : Int}, 0 ≤ a ∧ a ≤ 100 → 0 ≤ l_tl Ks h a E ∧ l_tl Ks h a E ≤ 100
  | [], a, ha => ha
  | K :: Ks, a, ha => l_tlr (Ks := Ks) (l_str ha)
theorem l_tla {h a : Int} {E : Int → Int} {Ks : List p_K} {K : p_K} : l_tl (Ks ++ [K]) h a E = l_st h E (l_tl Ks h a E) K := by
  unfold l_tl; rw [List.foldl_append]; rfl
/-- one clause, as the reference goes along it -/
theorem l_stR {h is v b ho bt a a' : Int} {E : Int → Int} {A B : p_D} {k : Int} {T : Option p_D} (hs : (is = 3 ∧ v = 1 ∧ b = 0) ∨ (is ≠ 3 ∧ W_s 1 0 (A E) v b)) (ht : (T = none ∧ ho = 1 ∧ bt = 0) ∨ (∃ t, T = some t ∧ T_s 1 0 (t E) ho bt)) (ha : (is = h + 1 ∧ ho ≠ 0 ∧ bt = 0 ∧ b = 0 ∧ a' = l_cl v) ∨ (¬ (is = h + 1 ∧ ho ≠ 0 ∧ bt = 0 ∧ b = 0) ∧ a' = a)) : l_st h E a (is - 1, A, B, k, T) = a' := by
  have hh : k_hd T E ↔ (ho ≠ 0 ∧ bt = 0) := by
    rcases ht with ⟨t1, t2, t3⟩ | ⟨t, t1, t2⟩
    · exact ⟨fun _ => by omega, fun _ x hx => by rw [t1] at hx; cases hx⟩
    · obtain ⟨p1, p2, p3, -⟩ := t2
      have p3 := p3 ⟨rfl, rfl⟩
      constructor
      · intro q
        have := p3.1 1 (q t t1)
        omega
      · intro q x hx
        rw [t1] at hx
        have hx := Option.some.inj hx
        rw [← hx]
        cases hz : t E with
        | none => have := p3.2 hz; omega
        | some y => have := p3.1 y hz; rw [show y = 1 by omega]
  have hv : (b = 0 → k_vl2 (is - 1, A, B, k, T) E = some v) ∧ (b ≠ 0 → k_vl2 (is - 1, A, B, k, T) E = none) := by
    show (b = 0 → (if is - 1 = 2 then some 1 else A E) = some v) ∧ (b ≠ 0 → (if is - 1 = 2 then some 1 else A E) = none)
    rcases hs with ⟨s1, s2, s3⟩ | ⟨s1, s2⟩
    · rw [if_pos (by omega), s2]; exact ⟨fun _ => rfl, fun q => absurd s3 q⟩
    · rw [if_neg (by omega)]
      obtain ⟨p1, -, p3, -⟩ := s2
      have p3 := p3 ⟨rfl, rfl⟩
      cases hz : A E with
      | none => have := p3.2 hz; exact ⟨fun q => by omega, fun _ => rfl⟩
      | some y => have := p3.1 y hz; exact ⟨fun _ => by rw [this.1], fun q => absurd this.2 q⟩
  rcases ha with ⟨a1, a2, a3, a4, a5⟩ | ⟨a1, a2⟩
  · rw [l_st1 (show is - 1 = h by omega) (hh.mpr ⟨a2, a3⟩) (hv.1 a4), a5]
  · rw [a2]
    refine l_st0 (fun q => ?_)
    have q1 : is - 1 = h := q.1
    have q2 := hh.mp q.2.1
    by_cases b0 : b = 0
    · exact a1 ⟨by omega, q2.1, q2.2, b0⟩
    · exact q.2.2 (hv.2 b0)
/-- the laws of a row of things kept -/
def l_c (K : Int → Int) (i : Int) : Int → Int := fun k => if 0 ≤ k ∧ k < K (51 + i) then K (58 + (400 * i + k)) else 0
def l_v (K : Int → Int) (i : Int) : Int → Int := fun k => if 0 ≤ k ∧ k < K (51 + i) then K (2858 + (400 * i + k)) else 0
def l_ks (K : Int → Int) (i : Int) : List p_K := match p_all (l_c K i) (l_v K i) false (K (51 + i)) with
  | .ok Ks => Ks
  | .error _ => []
def L_ok (K : Int → Int) (i : Int) : Prop := (0 ≤ K (51 + i) ∧ K (51 + i) ≤ 400) ∧ (∀ k, 0 ≤ k → k < K (51 + i) → 0 ≤ K (2858 + (400 * i + k))) ∧ p_all (l_c K i) (l_v K i) false (K (51 + i)) = .ok (l_ks K i)
/-- the clauses in force -/
def l_fo (K : Int → Int) (f : Int) : List p_K := if f = -1 then [] else l_ks K f
/-- what the words of a law tell -/
def l_E (K : Int → Int) (yr jn lf rg wt hr : Int) : Int → Int := fun i => if i = 0 then jn else if i = 1 then lf else if i = 2 then rg else if i = 3 then wt else if i = 4 then hr else if i = 5 then (if hr = -1 then -1 else f_cnt (fun i => K (19 + i)) hr (K 46).toNat) else if i = 6 then yr else if i = 7 then K 44 else 0
