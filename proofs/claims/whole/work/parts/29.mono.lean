/-! The memory of a run only grows. -/
def cw_om (m : cw_M) (o : Option cw_O) : Prop := match o with
  | some (.inl (_, _, _, m')) => m' = m
  | some (.inr (.inl (P, _, _, _, m'))) => P → (m' (-1) = m (-1) ∧ m' (-2) = m (-2)) ∨ ∃ t n : Int, m' = cw_new m t n ∧ 0 < t ∧ t < 64 ∧ 0 ≤ n ∧ n < 16384
  | some (.inr (.inr (.inr (.inl (y, _, _, _))))) => 1 ≤ y ∧ y < 269
  | some (.inr (.inr (.inr (.inr (.inl (_, y, _, _, _)))))) => 1 ≤ y ∧ y < 269
  | _ => True
section CWO
variable {m : cw_M} {ls st : List cw_V}
theorem cw_om_p1 {f : Int → List cw_V → Option cw_O} (h : ∀ x s, cw_om m (f x s)) : cw_om m (cw_p1 st f) := by
  rcases st with _ | ⟨_ | x | x | x, s⟩ <;> first | exact trivial | exact h _ _
theorem cw_om_l1 {f : Int → List cw_V → Option cw_O} (h : ∀ x s, cw_om m (f x s)) : cw_om m (cw_l1 st f) := by
  rcases st with _ | ⟨_ | x | x | x, s⟩ <;> first | exact trivial | exact h _ _
theorem cw_om_r1 {f : Int → List cw_V → Option cw_O} (h : ∀ x s, cw_om m (f x s)) : cw_om m (cw_r1 st f) := by
  rcases st with _ | ⟨_ | x | x | x, s⟩ <;> first | exact trivial | exact h _ _
theorem cw_om_p2 {f : Int → Int → List cw_V → Option cw_O} (h : ∀ x y s, cw_om m (f x y s)) : cw_om m (cw_p2 st f) := by
  rcases st with _ | ⟨_ | y | y | y, _ | ⟨_ | x | x | x, s⟩⟩ <;> first | exact trivial | exact h _ _ _
theorem cw_om_l2 {f : Int → Int → List cw_V → Option cw_O} (h : ∀ x y s, cw_om m (f x y s)) : cw_om m (cw_l2 st f) := by
  rcases st with _ | ⟨_ | y | y | y, _ | ⟨_ | x | x | x, s⟩⟩ <;> first | exact trivial | exact h _ _ _
theorem cw_om_li {f : Int → Int → List cw_V → Option cw_O} (h : ∀ x y s, cw_om m (f x y s)) : cw_om m (cw_li st f) := by
  rcases st with _ | ⟨_ | y | y | y, _ | ⟨_ | x | x | x, s⟩⟩ <;> first | exact trivial | exact h _ _ _
theorem cw_om_ri {f : Int → Int → List cw_V → Option cw_O} (h : ∀ x y s, cw_om m (f x y s)) : cw_om m (cw_ri st f) := by
  rcases st with _ | ⟨_ | y | y | y, _ | ⟨_ | x | x | x, s⟩⟩ <;> first | exact trivial | exact h _ _ _
theorem cw_om_rii {f : Int → Int → Int → List cw_V → Option cw_O} (h : ∀ x y z s, cw_om m (f x y z s)) : cw_om m (cw_rii st f) := by
  rcases st with _ | ⟨_ | z | z | z, _ | ⟨_ | y | y | y, _ | ⟨_ | x | x | x, s⟩⟩⟩ <;> first | exact trivial | exact h _ _ _ _
theorem cw_om_ril {f : Int → Int → Int → List cw_V → Option cw_O} (h : ∀ x y z s, cw_om m (f x y z s)) : cw_om m (cw_ril st f) := by
  rcases st with _ | ⟨_ | z | z | z, _ | ⟨_ | y | y | y, _ | ⟨_ | x | x | x, s⟩⟩⟩ <;> first | exact trivial | exact h _ _ _ _
theorem cw_om_rir {f : Int → Int → Int → List cw_V → Option cw_O} (h : ∀ x y z s, cw_om m (f x y z s)) : cw_om m (cw_rir st f) := by
  rcases st with _ | ⟨_ | z | z | z, _ | ⟨_ | y | y | y, _ | ⟨_ | x | x | x, s⟩⟩⟩ <;> first | exact trivial | exact h _ _ _ _
theorem cw_om_gi {n : Nat} {f : Int → Option cw_O} (h : ∀ x, cw_om m (f x)) : cw_om m (cw_gi ls n f) := by
  unfold cw_gi; split <;> first | exact trivial | exact h _
theorem cw_om_gl {n : Nat} {f : Int → Option cw_O} (h : ∀ x, cw_om m (f x)) : cw_om m (cw_gl ls n f) := by
  unfold cw_gl; split <;> first | exact trivial | exact h _
theorem cw_om_gr {n : Nat} {f : Int → Option cw_O} (h : ∀ x, cw_om m (f x)) : cw_om m (cw_gr ls n f) := by
  unfold cw_gr; split <;> first | exact trivial | exact h _
theorem cw_om_st : ∀ {l : List cw_V} {n : Nat} {v : cw_V} {k : List cw_V → Option cw_O}, (∀ l, cw_om m (k l)) → cw_om m (cw_st l n v k)
  | [], _, _, _, _ => trivial
  | _ :: _, 0, _, _, h => h _
  | a :: t, 1, v, k, h => by
    rcases t with _ | ⟨b, t⟩
    · rcases a with _ | x | x | x <;> exact trivial
    · rcases a with _ | x | x | x <;> exact h _
  | a :: t, n + 2, v, k, h => cw_om_st (l := t) (n := n + 1) (fun l => h _)
theorem cw_om_pn : ∀ {n : Nat} {l as : List cw_V} {k : List cw_V → List cw_V → Option cw_O}, (∀ as s, cw_om m (k as s)) → cw_om m (cw_pn n l as k)
  | 0, _, _, _, h => h _ _
  | _ + 1, [], _, _, _ => trivial
  | n + 1, v :: l, as, k, h => cw_om_pn (n := n) (l := l) h
theorem cw_om_bif {b : Bool} {o : Option cw_O} (h : cw_om m o) : cw_om m (bif b then o else none) := by
  cases b
  · exact trivial
  · exact h
theorem cw_put_rows {c i v : Int} (h : cw_own c) : cw_put m c i v (-1) = m (-1) ∧ cw_put m c i v (-2) = m (-2) := by
  unfold cw_own at h
  exact ⟨cw_put_ne (by omega), cw_put_ne (by omega)⟩
theorem cw_cpy_ne {s sp d dp n b : Int} (h : b ≠ d) : cw_cpy m s sp d dp n b = m b := by
  funext j
  unfold cw_cpy
  rw [if_neg (fun q => h q.1)]
theorem cw_okm_r {o idx k a b : Nat} {y : Int} (h : cw_okm o idx k a b y = true) : 1 ≤ a ∧ a < 269 := by
  unfold cw_okm at h
  simp only [Bool.and_eq_true, decide_eq_true_eq] at h
  exact h.1.1.1.1
theorem cw_om_stp {u : Nat} {q : cw_A} (hok : cw_okb u q = true) : cw_om m (cw_stp q ls st m) := by
  obtain ⟨pc, len, i, a, b, x, y⟩ := q
  obtain ⟨-, hok⟩ := cw_okb_inv hok
  cases i with
  | new n =>
    intro _
    have h : (len == 3 && decide (1 ≤ x) && decide (x ≤ 11) && y == ((cw_N (x.toNat - 1) : Nat) : Int) && cw_LC0.any (fun e => e.2 == (cw_oc u, n, x.toNat - 1))) = true := hok
    simp only [Bool.and_eq_true, decide_eq_true_eq, beq_iff_eq] at h
    have hN := cw_N56 (x.toNat - 1) (by omega)
    exact Or.inr ⟨x, y, rfl, by omega, by omega, by omega, by omega⟩
  | newarray t =>
    refine cw_om_p1 (fun n s h => ?_)
    have h3 : 40 ≤ x ∧ x ≤ 43 := by
      cases t with
      | int =>
        have hk : (len == 2 && x == 40) = true := hok
        simp only [Bool.and_eq_true, beq_iff_eq] at hk
        omega
      | long =>
        have hk : (len == 2 && x == 41) = true := hok
        simp only [Bool.and_eq_true, beq_iff_eq] at hk
        omega
      | boolean =>
        have hk : (len == 2 && x == 42) = true := hok
        simp only [Bool.and_eq_true, beq_iff_eq] at hk
        omega
      | byte =>
        have hk : (len == 2 && x == 43) = true := hok
        simp only [Bool.and_eq_true, beq_iff_eq] at hk
        omega
      | _ =>
        have hk : (len == 2 && false) = true := hok
        simp at hk
    exact Or.inr ⟨x, n, rfl, by omega, by omega, h.1.1, h.1.2⟩
  | anewarray n =>
    refine cw_om_p1 (fun n' s h => ?_)
    have h2 : (len == 3 && ((x == 44 && cw_LC0.any (fun e => e.2 == (cw_oc u, n, 7))) || (x == 45 && cw_LC0.any (fun e => e.2 == (cw_oc u, n, 8))))) = true := hok
    simp only [Bool.and_eq_true, Bool.or_eq_true, beq_iff_eq] at h2
    exact Or.inr ⟨x, n', rfl, by omega, by omega, h.1.1, h.1.2⟩
  | putfield n =>
    match a with
    | 0 =>
      refine cw_om_p1 (fun v s => cw_om_r1 (fun c s' => ?_))
      match b with
      | 0 => exact fun h => Or.inl (cw_put_rows h.2)
      | b + 1 => exact fun h => Or.inl (cw_put_rows h.2.1)
    | 1 => exact cw_om_l1 (fun v s => cw_om_r1 (fun c s' h => Or.inl (cw_put_rows h.2)))
    | a + 2 => exact cw_om_r1 (fun v s => cw_om_r1 (fun c s' h => Or.inl (cw_put_rows h.2)))
  | iastore => exact cw_om_rii (fun c i v s h => Or.inl (cw_put_rows h.1.2))
  | lastore => exact cw_om_ril (fun c i v s h => Or.inl (cw_put_rows h.1.2))
  | bastore => exact cw_om_rii (fun c i v s h => Or.inl (cw_put_rows h.1.2))
  | aastore => exact cw_om_rir (fun c i v s h => Or.inl (cw_put_rows h.1.2))
  | pop =>
    rcases st with _ | ⟨v, s⟩
    · exact trivial
    · exact cw_om_bif rfl
  | dup =>
    rcases st with _ | ⟨v, s⟩
    · exact trivial
    · exact cw_om_bif rfl
  | dup2 =>
    rcases st with _ | ⟨_ | z | z | z, _ | ⟨w, s⟩⟩ <;> first | exact trivial | exact rfl | exact cw_om_bif rfl
  | ifCond c off => exact cw_om_p1 (fun _ _ => by cases c <;> exact trivial)
  | if_icmp c off => exact cw_om_p2 (fun _ _ _ => by cases c <;> exact trivial)
  | ireturn =>
    rcases st with _ | ⟨_ | z | z | z, _ | ⟨w, s⟩⟩ <;> first | exact trivial | (match a with | 0 => exact trivial | a + 1 => exact trivial)
  | lreturn =>
    rcases st with _ | ⟨_ | z | z | z, _ | ⟨w, s⟩⟩ <;> exact trivial
  | areturn =>
    rcases st with _ | ⟨_ | z | z | z, _ | ⟨w, s⟩⟩ <;> exact trivial
  | return_ =>
    rcases st with _ | ⟨z, s⟩ <;> exact trivial
  | invokespecial n =>
    match a with
    | 0 => exact cw_om_r1 (fun c s => cw_om_bif (fun _ => Or.inl ⟨rfl, rfl⟩))
    | a + 1 =>
      have h2 : (len == 3 && ((a + 1 == 0 && cw_LO.any (fun e => e.2 == (cw_oc u, n))) || (cw_okm (cw_oc u) n 2 (a + 1) b y && decide (1 ≤ x) && decide (x ≤ 11) && (cw_oc (a + 1) == x.toNat - 1)))) = true := hok
      have hr : 1 ≤ a + 1 ∧ a + 1 < 269 := by
        simp only [Bool.and_eq_true, Bool.or_eq_true] at h2
        rcases h2.2 with h | h
        · simp at h
        · exact cw_okm_r h.1.1.1
      exact cw_om_pn (fun as s => cw_om_bif (by rcases as with _ | ⟨_ | z | z | z, t⟩ <;> first | exact trivial | exact hr))
  | invokevirtual n =>
    have h2 : (len == 3 && cw_okm (cw_oc u) n 1 a b y && ((x == 12 && cw_oc a == 12) || (decide (1 ≤ x) && decide (x ≤ 11) && (cw_oc a == x.toNat - 1)))) = true := hok
    simp only [Bool.and_eq_true] at h2
    have hr := cw_okm_r h2.1.2
    exact cw_om_pn (fun as s => cw_om_bif (by rcases as with _ | ⟨_ | z | z | z, t⟩ <;> first | exact trivial | exact hr))
  | invokestatic n =>
    match a with
    | 0 =>
      show cw_om m (match st with
        | some (.inl n) :: some (.inl dp) :: some (.inr (.inr d)) :: some (.inl sp) :: some (.inr (.inr c)) :: s => bif Nat.ble (cw_cs s) 8 then cw_ck ((cw_tg c = 40 ∧ cw_tg d = 40 ∧ cw_own c ∧ cw_own d) ∧ (0 ≤ sp ∧ 0 ≤ dp ∧ 0 ≤ n) ∧ sp + n ≤ cw_ln c ∧ dp + n ≤ cw_ln d) (pc + len) ls s (cw_cpy m c sp d dp n) else none
        | _ => none)
      split
      · refine cw_om_bif (fun h => Or.inl ?_)
        have ho := h.1.2.2.2
        unfold cw_own at ho
        exact ⟨cw_cpy_ne (by omega), cw_cpy_ne (by omega)⟩
      · exact trivial
    | a + 1 =>
      have h2 : (len == 3 && ((a + 1 == 0 && cw_LA.any (fun e => e.2 == (cw_oc u, n))) || cw_okm (cw_oc u) n 0 (a + 1) b y)) = true := hok
      have hr : 1 ≤ a + 1 ∧ a + 1 < 269 := by
        simp only [Bool.and_eq_true, Bool.or_eq_true] at h2
        rcases h2.2 with h | h
        · simp at h
        · exact cw_okm_r h
      exact cw_om_pn (fun as s => cw_om_bif hr)
  | _ => first
    | exact trivial
    | exact rfl
    | exact cw_om_p1 (fun _ _ => rfl)
    | exact cw_om_p1 (fun _ _ => trivial)
    | exact cw_om_p2 (fun _ _ _ => rfl)
    | exact cw_om_p2 (fun _ _ _ _ => Or.inl ⟨rfl, rfl⟩)
    | exact cw_om_l1 (fun _ _ => rfl)
    | exact cw_om_l2 (fun _ _ _ => rfl)
    | exact cw_om_l2 (fun _ _ _ _ => Or.inl ⟨rfl, rfl⟩)
    | exact cw_om_li (fun _ _ _ => rfl)
    | exact cw_om_r1 (fun _ _ _ => Or.inl ⟨rfl, rfl⟩)
    | exact cw_om_r1 (fun _ _ => trivial)
    | exact cw_om_ri (fun _ _ _ _ => Or.inl ⟨rfl, rfl⟩)
    | exact cw_om_gi (fun _ => rfl)
    | exact cw_om_gl (fun _ => rfl)
    | exact cw_om_gr (fun _ => rfl)
    | exact cw_om_p1 (fun _ _ => cw_om_st (fun _ => rfl))
    | exact cw_om_r1 (fun _ _ => cw_om_st (fun _ => rfl))
    | exact cw_om_l1 (fun _ _ => cw_om_st (fun _ => cw_om_st (fun _ => cw_om_st (fun _ => rfl))))
    | exact cw_om_gi (fun _ => cw_om_st (fun _ => rfl))
end CWO
/-- later than -/
def cw_lm (m m' : cw_M) : Prop := 32 ≤ m (-1) 0 → 32 ≤ m' (-1) 0 ∧ m (-1) 0 ≤ m' (-1) 0 ∧ m (-1) 1 ≤ m' (-1) 1 ∧ ∀ c, cw_vd m c → cw_vd m' c
theorem cw_lm_rf (m : cw_M) : cw_lm m m := fun h => ⟨h, Int.le_refl _, Int.le_refl _, fun _ h => h⟩
theorem cw_lm_tr {m m1 m2 : cw_M} (h1 : cw_lm m m1) (h2 : cw_lm m1 m2) : cw_lm m m2 := fun h => by
  obtain ⟨a1, a2, a3, a4⟩ := h1 h
  obtain ⟨b1, b2, b3, b4⟩ := h2 a1
  exact ⟨b1, by omega, by omega, fun c hc => b4 c (a4 c hc)⟩
theorem cw_lm_om {m m' : cw_M} (h : (m' (-1) = m (-1) ∧ m' (-2) = m (-2)) ∨ ∃ t n : Int, m' = cw_new m t n ∧ 0 < t ∧ t < 64 ∧ 0 ≤ n ∧ n < 16384) : cw_lm m m' := fun h32 => by
  rcases h with ⟨h1, h2⟩ | ⟨t, n, rfl, t1, t2, n1, n2⟩
  · rw [h1]
    exact ⟨h32, Int.le_refl _, Int.le_refl _, fun c hc => (cw_vd_of h1 h2 c).mpr hc⟩
  · have g := (cw_nc_ok h32 ⟨by omega, t2⟩ ⟨n1, n2⟩).2.2.2
    rw [cw_new_0 g, cw_new_1 g]
    exact ⟨by omega, by omega, by omega, fun c hc => (cw_new_vd h32 ⟨by omega, t2⟩ ⟨n1, n2⟩).mpr (Or.inr hc)⟩
theorem cw_Rn_lm : ∀ (n : Nat) {d y pc : Nat} {ls st : List cw_V} {m mF : cw_M} {r : Option cw_V}, 1 ≤ y → y < 270 → cw_Rn n d y pc ls st m (fun r' m2 => r' = r ∧ m2 = mF) → cw_lm m mF := by
  intro n
  induction n with
  | zero => intro d y pc ls st m mF r _ _ h; exact h.elim
  | succ n ih =>
    intro d y pc ls st m mF r y1 y2 h
    have h0 : cw_S (fun pc ls st m => cw_Rn n d y pc ls st m (fun r' m2 => r' = r ∧ m2 = mF)) (cw_dd (fun d y as m Q => cw_Rn n d y 0 (cw_en as (cw_ml y)) [] m Q) d) (fun r' m2 => r' = r ∧ m2 = mF) y pc ls st m := h
    unfold cw_S at h0
    split at h0
    · exact h0.elim
    · rename_i q hq
      have om := cw_om_stp (m := m) (ls := ls) (st := st) (cw_okx y1 y2 hq).1
      have call : ∀ {z : Nat} {as : List cw_V} {pc : Nat} {st : List cw_V}, 1 ≤ z ∧ z < 269 → (cw_dd (fun d y as m Q => cw_Rn n d y 0 (cw_en as (cw_ml y)) [] m Q) d) z as m (fun r1 m1 => cw_Rn n d y pc ls (r1.toList ++ st) m1 (fun r' m2 => r' = r ∧ m2 = mF)) → cw_lm m mF := by
        intro z as pc st hz h
        match d, h with
        | d + 1, h =>
          obtain ⟨r1, m1, h1, h2⟩ := cw_Rn_one n h
          exact cw_lm_tr (ih hz.1 (by omega) h2) (ih y1 y2 h1)
      generalize cw_stp q ls st m = o at h0 om
      unfold cw_G at h0
      unfold cw_om at om
      split at h0
      · exact h0.elim
      · rw [← om]; exact ih y1 y2 h0
      · exact cw_lm_tr (cw_lm_om (om h0.1)) (ih y1 y2 h0.2)
      · rename_i P t f st'
        by_cases hP : P
        · exact ih y1 y2 (h0.1 hP)
        · exact ih y1 y2 (h0.2 hP)
      · exact call om h0
      · exact call om h0.2
      · rw [h0.2]; exact cw_lm_rf _
      · rw [h0.2.2]; exact cw_lm_rf _
