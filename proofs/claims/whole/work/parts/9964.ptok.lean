/-! A text read from another row of tokens (wip/whole/tools/m164.py). -/
def p_e {α : Type} (r r' : Except Int (Int × Int × α)) : Prop := r = r' ∧ ∀ i1 l1 D, r = .ok (i1, l1, D) → 0 ≤ i1
theorem p_ee {α : Type} {e : Int} : p_e (.error e : Except Int (Int × Int × α)) (.error e) := ⟨rfl, fun i l D q => by cases q⟩
theorem p_eo {α : Type} {i l : Int} {D : α} (h : 0 ≤ i) : p_e (.ok (i, l, D) : Except Int (Int × Int × α)) (.ok (i, l, D)) := ⟨rfl, fun i1 l1 D1 q => by cases q; exact h⟩
theorem p_ei {α : Type} {P : Prop} [Decidable P] {a a' b b' : Except Int (Int × Int × α)} (h1 : p_e a a') (h2 : p_e b b') : p_e (if P then a else b) (if P then a' else b') := by
  split
  · exact h1
  · exact h2
theorem p_e1 {r r' : p_R} {k k' : Int → Int → p_D → p_R} (h : p_e r r') (hk : ∀ i l D, 0 ≤ i → p_e (k i l D) (k' i l D)) : p_e (p_b r k) (p_b r' k') := by
  obtain ⟨h1, h2⟩ := h
  subst h1
  cases r with
  | error e => exact ⟨rfl, fun i l D q => by cases q⟩
  | ok q =>
    obtain ⟨i, l, D⟩ := q
    exact hk i l D (h2 i l D rfl)
section PE
variable {c v c' v' : Int → Int} {o : Bool}
theorem p_sE (hc : ∀ i, 0 ≤ i → c' i = c i ∧ v' i = v i) : ∀ (f md : Nat) {dp i l : Int} {acc : p_D}, md ≤ 4 → 0 ≤ i → p_e (p_s c v o f md dp i l acc) (p_s c' v' o f md dp i l acc)
  | 0, md, dp, i, l, acc, _, h => p_ee
  | f + 1, 0, dp, i, l, acc, _, h => by
    have h1 := hc (i + 1) (by omega)
    rw [p_s0, p_s0, (hc i h).1, (hc i h).2, h1.1, h1.2]
    refine p_ei (p_ei p_ee (p_e1 (p_sE hc f 3 (by decide) (by omega)) (fun i1 l1 D q => ?_))) (p_ei (p_ei p_ee (p_ei (p_eo (by omega)) (p_ei (p_ei (p_eo (by omega)) p_ee) (p_eo (by omega))))) p_ee)
    rw [(hc i1 q).1]
    exact p_ei (p_eo (by omega)) p_ee
  | f + 1, 1, dp, i, l, acc, _, h => by
    rw [p_s1, p_s1]
    exact p_e1 (p_sE hc f 0 (by decide) h) (fun i1 l1 D q => p_sE hc f 2 (by decide) q)
  | f + 1, 2, dp, i, l, acc, _, h => by
    rw [p_s2, p_s2, (hc i h).1]
    exact p_ei (p_e1 (p_sE hc f 0 (by decide) (by omega)) (fun i1 l1 D q => p_sE hc f 2 (by decide) q)) (p_eo h)
  | f + 1, 3, dp, i, l, acc, _, h => by
    rw [p_s3, p_s3]
    exact p_e1 (p_sE hc f 1 (by decide) h) (fun i1 l1 D q => p_sE hc f 4 (by decide) q)
  | f + 1, 4, dp, i, l, acc, _, h => by
    rw [p_s4, p_s4, (hc i h).1]
    exact p_ei (p_e1 (p_sE hc f 1 (by decide) (by omega)) (fun i1 l1 D q => p_sE hc f 4 (by decide) q)) (p_eo h)
  | f + 1, md + 5, dp, i, l, acc, hmd, h => by omega
theorem p_tE (hc : ∀ i, 0 ≤ i → c' i = c i ∧ v' i = v i) : ∀ (f md : Nat) {dp i l : Int} {acc : p_D} {ng : Bool}, md ≤ 4 → 0 ≤ i → p_e (p_t c v o f md dp i l acc ng) (p_t c' v' o f md dp i l acc ng)
  | 0, md, dp, i, l, acc, ng, _, h => p_ee
  | f + 1, 0, dp, i, l, acc, ng, _, h => by
    rw [p_t0, p_t0, (hc i h).1]
    refine p_ei (p_tE hc f 0 (by decide) (by omega)) (p_ei (p_ei p_ee (p_e1 (p_tE hc f 3 (by decide) (by omega)) (fun i1 l1 D q => ?_))) (p_e1 (p_sE hc f 3 (by decide) h) (fun i1 l1 A q => ?_)))
    · rw [(hc i1 q).1]
      exact p_ei (p_eo (by omega)) p_ee
    · rw [(hc i1 q).1]
      exact p_ei (p_e1 (p_sE hc f 3 (by decide) (by omega)) (fun i2 l2 B q2 => p_eo q2)) p_ee
  | f + 1, 1, dp, i, l, acc, ng, _, h => by
    rw [p_t1, p_t1]
    exact p_e1 (p_tE hc f 0 (by decide) h) (fun i1 l1 D q => p_tE hc f 2 (by decide) q)
  | f + 1, 2, dp, i, l, acc, ng, _, h => by
    rw [p_t2, p_t2, (hc i h).1]
    exact p_ei (p_e1 (p_tE hc f 0 (by decide) (by omega)) (fun i1 l1 D q => p_tE hc f 2 (by decide) q)) (p_eo h)
  | f + 1, 3, dp, i, l, acc, ng, _, h => by
    rw [p_t3, p_t3]
    exact p_e1 (p_tE hc f 1 (by decide) h) (fun i1 l1 D q => p_tE hc f 4 (by decide) q)
  | f + 1, 4, dp, i, l, acc, ng, _, h => by
    rw [p_t4, p_t4, (hc i h).1]
    exact p_ei (p_e1 (p_tE hc f 1 (by decide) (by omega)) (fun i1 l1 D q => p_tE hc f 4 (by decide) q)) (p_eo h)
  | f + 1, md + 5, dp, i, l, acc, ng, hmd, h => by omega
theorem p_iftE (hc : ∀ i, 0 ≤ i → c' i = c i ∧ v' i = v i) {h : Int} {A B : p_D} {k i l : Int} (hi : 0 ≤ i) : p_e (p_ift c v o h A B k i l) (p_ift c' v' o h A B k i l) := by
  unfold p_ift
  have z := p_tE (o := o) hc 2100 3 (dp := 0) (i := i + 1) (l := l) (acc := p_z) (ng := false) (by decide) (by omega)
  rw [(hc i hi).1, ← z.1]
  refine p_ei ?_ (p_eo hi)
  have z2 := z.2
  generalize p_t c v o 2100 3 0 (i + 1) l p_z false = r at z2 ⊢
  cases r with
  | error e => exact p_ee
  | ok q =>
    obtain ⟨i1, l1, T⟩ := q
    exact p_eo (z2 i1 l1 T rfl)
theorem p_oneE (hc : ∀ i, 0 ≤ i → c' i = c i ∧ v' i = v i) {i l : Int} (hi : 0 ≤ i) : p_e (p_one c v false i l) (p_one c' v' false i l) := by
  rw [p_oneL, p_oneL]
  have z := p_sE (o := false) hc 2100 3 (dp := 0) (i := i + 1) (l := l) (acc := p_z) (by decide) (by omega)
  rw [(hc i hi).1, ← z.1]
  refine p_ei ?_ (p_ei (p_iftE hc (by omega)) p_ee)
  have z2 := z.2
  generalize p_s c v false 2100 3 0 (i + 1) l p_z = r at z2 ⊢
  cases r with
  | error e => exact p_ee
  | ok q =>
    obtain ⟨i1, l1, A⟩ := q
    exact p_iftE hc (z2 i1 l1 A rfl)
theorem p_restE (hc : ∀ i, 0 ≤ i → c' i = c i ∧ v' i = v i) {n : Int} : ∀ (f : Nat) {k i l : Int} {acc : List p_K}, 0 ≤ i → p_rest c v false n f k i l acc = p_rest c' v' false n f k i l acc
  | 0, k, i, l, acc, h => rfl
  | f + 1, k, i, l, acc, h => by
    have z := p_oneE hc (l := l) (show 0 ≤ i + 1 by omega)
    unfold p_rest
    rw [(hc i h).1, ← z.1]
    have z2 := z.2
    generalize p_one c v false (i + 1) l = r at z2 ⊢
    cases r with
    | error e => rfl
    | ok q =>
      obtain ⟨i1, l1, K⟩ := q
      have w := p_restE hc (n := n) f (k := k + 1) (l := l1) (acc := acc ++ [K]) (z2 i1 l1 K rfl)
      show (if c i = 159 then (if k = 12 then _ else p_rest c v false n f (k + 1) i1 l1 (acc ++ [K])) else _) = (if c i = 159 then (if k = 12 then _ else p_rest c' v' false n f (k + 1) i1 l1 (acc ++ [K])) else _)
      rw [w]
theorem p_allE (hc : ∀ i, 0 ≤ i → c' i = c i ∧ v' i = v i) {n : Int} : p_all c v false n = p_all c' v' false n := by
  have z := p_oneE hc (l := 0) (Int.le_refl 0)
  unfold p_all
  rw [← z.1]
  have z2 := z.2
  generalize p_one c v false 0 0 = r at z2 ⊢
  cases r with
  | error e => rfl
  | ok q =>
    obtain ⟨i1, l1, K⟩ := q
    exact p_restE hc 13 (z2 i1 l1 K rfl)
end PE
theorem k_pln {b : Int → Int} {n tk : Int} (h : K_n b n tk) : ∀ i : Nat, tk.toNat ≤ i → k_pl b n i = n := by
  intro i
  induction i with
  | zero => intro q; have z := h.2.2; rw [show tk.toNat = 0 by omega] at z; exact z
  | succ i ih =>
    intro q
    by_cases e : tk.toNat = i + 1
    · rw [← e]; exact h.2.2
    · have z := ih (by omega)
      show k_bl b n (k_en b n (k_pl b n i)) = n
      rw [z]
      have e2 : k_en b n n = n := by unfold k_en; rw [if_neg (by omega)]
      rw [e2]
      have r := k_blr (b := b) (n := n) (k := n) (Int.le_refl n)
      omega
theorem k_CV0 {b : Int → Int} {n tk i : Int} (h : K_n b n tk) (hi : tk ≤ i) : k_C b n i = 0 ∧ k_V b n i = 0 := by
  have z := k_pln h i.toNat (by have := h.1; omega)
  unfold k_C k_V k_cd k_vl
  rw [z, if_neg (by omega), if_neg (fun q => by omega)]
  exact ⟨rfl, rfl⟩
