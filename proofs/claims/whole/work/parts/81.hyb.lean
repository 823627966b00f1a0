/-! The unrolling for places where a reference is not known: the checks are asked there. -/
def hb_stp (q : cw_A) (ls st : List cw_V) (m : cw_M) : Option cw_O := match q with
  | (pc, len, i, a, b, x, y) => match i with
    | .getfield _ => cw_stp q ls st m
    | .arraylength => cw_stp q ls st m
    | .iaload => cw_stp q ls st m
    | .aaload => cw_stp q ls st m
    | .iastore => cw_stp q ls st m
    | .aastore => cw_stp q ls st m
    | .invokevirtual _ => cw_stp q ls st m
    | .invokespecial _ => cw_stp q ls st m
    | .putfield _ => match a with
      | 0 => cw_p1 st fun v s => cw_r1 s fun c s' => match b with
        | 0 => cw_ck ((cw_tg c = x ∧ cw_own c) ∧ la_f c y = none) (pc + len) ls s' (cw_put m c y v)
        | _ => none
      | 1 => none
      | _ => cw_r1 st fun v s => cw_r1 s fun c s' => cw_ck ((cw_tg c = x ∧ cw_own c) ∧ la_f c y = none) (pc + len) ls s' (cw_put m c y v)
    | .invokestatic _ => match a with
      | 0 => cw_stp q ls st m
      | _ => none
    | _ => none
section HB
variable {K K' : Nat → List cw_V → List cw_V → cw_M → Prop} {C : Nat → List cw_V → cw_M → (Option cw_V → cw_M → Prop) → Prop} {Q : Option cw_V → cw_M → Prop} {ls st : List cw_V} {m : cw_M}
theorem hb_step (hm : la_ok m) (hK : ∀ pc ls st m, la_ok m → K pc ls st m → K' pc ls st m) (hC : ∀ y as m R R', (∀ r m, R r m → R' r m) → C y as m R → C y as m R') {q : cw_A} (h : cw_G K (la_C C) Q ls m (hb_stp q ls st m)) : cw_G K' C Q ls m (cw_stp q ls st m) := by
  obtain ⟨pc, len, i, a, b, x, y⟩ := q
  have hcall : ∀ {z : Nat} {as : List cw_V} {n : Nat} {s : List cw_V}, la_C C z as m (fun r m' => K n ls (r.toList ++ s) m') → C z as m (fun r m' => K' n ls (r.toList ++ s) m') := fun h => hC _ _ _ _ _ (fun r m h => hK _ _ _ _ h.1 h.2) h
  cases i with
  | getfield n =>
    obtain ⟨c, s, rfl, h⟩ := cw_r1_inv (f := fun c s => cw_ck (cw_tg c = x) (pc + len) ls (cw_kv a (m c y) :: s) m) h
    exact ⟨h.1, hK _ _ _ _ hm h.2⟩
  | arraylength =>
    obtain ⟨c, s, rfl, h⟩ := cw_r1_inv (f := fun c s => cw_ck (40 ≤ cw_tg c) (pc + len) ls (vi (cw_ln c) :: s) m) h
    exact ⟨h.1, hK _ _ _ _ hm h.2⟩
  | iaload =>
    obtain ⟨c, i, s, rfl, h⟩ := cw_ri_inv (f := fun c i s => cw_ck (cw_tg c = 40 ∧ 0 ≤ i ∧ i < cw_ln c) (pc + len) ls (vi (m c i) :: s) m) h
    exact ⟨h.1, hK _ _ _ _ hm h.2⟩
  | aaload =>
    obtain ⟨c, i, s, rfl, h⟩ := cw_ri_inv (f := fun c i s => cw_ck ((cw_tg c = 44 ∨ cw_tg c = 45) ∧ 0 ≤ i ∧ i < cw_ln c) (pc + len) ls (vr (m c i) :: s) m) h
    exact ⟨h.1, hK _ _ _ _ hm h.2⟩
  | iastore =>
    obtain ⟨c, i, v, s, rfl, h⟩ := cw_rii_inv (f := fun c i v s => cw_ck ((cw_tg c = 40 ∧ cw_own c) ∧ 0 ≤ i ∧ i < cw_ln c) (pc + len) ls s (cw_put m c i v)) h
    exact ⟨h.1, hK _ _ _ _ (la_put hm h.1.1.2 (Or.inr (by have := h.1.1.1; omega))) h.2⟩
  | aastore =>
    obtain ⟨c, i, v, s, rfl, h⟩ := cw_rir_inv (f := fun c i v s => cw_ck (((cw_tg c = 44 ∧ (v = 0 ∨ cw_tg v = 8) ∨ cw_tg c = 45 ∧ (v = 0 ∨ cw_tg v = 9)) ∧ cw_own c) ∧ 0 ≤ i ∧ i < cw_ln c) (pc + len) ls s (cw_put m c i v)) h
    exact ⟨h.1, hK _ _ _ _ (la_put hm h.1.1.2 (Or.inr (by have := h.1.1.1; omega))) h.2⟩
  | putfield n =>
    match a, h with
    | 0, h =>
      obtain ⟨v, s1, rfl, h⟩ := cw_p1_inv h
      obtain ⟨c, s, rfl, h⟩ := cw_r1_inv h
      match b, h with
      | 0, h => exact ⟨h.1.1, hK _ _ _ _ (la_put hm h.1.1.2 (Or.inl h.1.2)) h.2⟩
      | b + 1, h => exact (h : False).elim
    | 1, h => exact (h : False).elim
    | a + 2, h =>
      obtain ⟨v, s1, rfl, h⟩ := cw_r1_inv h
      obtain ⟨c, s, rfl, h⟩ := cw_r1_inv h
      exact ⟨h.1.1, hK _ _ _ _ (la_put hm h.1.1.2 (Or.inl h.1.2)) h.2⟩
  | invokespecial n =>
    match a, h with
    | 0, h =>
      obtain ⟨c, s, rfl, h⟩ := cw_r1_inv (f := fun c s => bif Nat.ble (cw_cs s) 8 then cw_ck (c ≠ 0) (pc + len) ls s m else none) h
      obtain ⟨hb, h⟩ := cw_bif_inv h
      exact la_bt hb ⟨h.1, hK _ _ _ _ hm h.2⟩
    | a + 1, h =>
      refine la_pn (k := fun as s => bif Nat.ble (cw_cs s) 8 && Nat.ble (cw_cs as) y.toNat then (match as with
        | some (.inr (.inr c)) :: t => cw_cc (cw_tg c = x) (a + 1) (vr c :: t) (pc + len) s
        | _ => none) else none) (fun as s h => ?_) b st [] h
      obtain ⟨hb, h⟩ := cw_bif_inv h
      refine la_bt hb ?_
      rcases as with _ | ⟨_ | z | z | c, t⟩
      · exact (h : False).elim
      · exact (h : False).elim
      · exact (h : False).elim
      · exact (h : False).elim
      · exact ⟨h.1, hcall h.2⟩
  | invokevirtual n =>
    refine la_pn (k := fun as s => bif Nat.ble (cw_cs s) 8 && Nat.ble (cw_cs as) y.toNat then (match as with
        | some (.inr (.inr c)) :: t => cw_cc (cw_tg c = x) a (vr c :: t) (pc + len) s
        | _ => none) else none) (fun as s h => ?_) b st [] h
    obtain ⟨hb, h⟩ := cw_bif_inv h
    refine la_bt hb ?_
    rcases as with _ | ⟨_ | z | z | c, t⟩
    · exact (h : False).elim
    · exact (h : False).elim
    · exact (h : False).elim
    · exact (h : False).elim
    · exact ⟨h.1, hcall h.2⟩
  | invokestatic n =>
    match a, h with
    | 0, h =>
      have h1 : cw_G K (la_C C) Q ls m (match (generalizing := false) st with
        | some (.inl n) :: some (.inl dp) :: some (.inr (.inr d)) :: some (.inl sp) :: some (.inr (.inr c)) :: s => bif Nat.ble (cw_cs s) 8 then cw_ck ((cw_tg c = 40 ∧ cw_tg d = 40 ∧ cw_own c ∧ cw_own d) ∧ (0 ≤ sp ∧ 0 ≤ dp ∧ 0 ≤ n) ∧ sp + n ≤ cw_ln c ∧ dp + n ≤ cw_ln d) (pc + len) ls s (cw_cpy m c sp d dp n) else none
        | _ => none) := h
      split at h1
      · obtain ⟨hb, h1⟩ := cw_bif_inv h1
        exact la_bt hb ⟨h1.1, hK _ _ _ _ (la_cpy hm h1.1.1.2.1) h1.2⟩
      · exact (h1 : False).elim
    | a + 1, h => exact (h : False).elim
  | _ => exact (h : False).elim
end HB
/-- so many steps at once; at the places gs the references are not known -/
noncomputable def la_V (d y : Nat) (gs cs : List Nat) (Q : Option cw_V → cw_M → Prop) (k : Nat) : Nat → List cw_V → List cw_V → cw_M → Prop :=
  Nat.rec (motive := fun _ => Nat → List cw_V → List cw_V → cw_M → Prop) (fun pc ls st m => cw_R d y pc ls st m Q) (fun _ ih pc ls st m => match cw_cd y pc with
    | none => False
    | some q => cw_G (fun pc ls st m => bif cs.elem pc then cw_R d y pc ls st m Q else ih pc ls st m) (la_C (cw_D d)) Q ls m (bif gs.elem pc then hb_stp q ls st m else la_stp q ls st m)) k
theorem la_V_R {d y : Nat} {gs cs : List Nat} {Q : Option cw_V → cw_M → Prop} : ∀ (k : Nat) {pc : Nat} {ls st : List cw_V} {m : cw_M}, la_ok m → la_V d y gs cs Q k pc ls st m → cw_R d y pc ls st m Q := by
  intro k
  induction k with
  | zero => intro pc ls st m _ h; exact h
  | succ k ih =>
    intro pc ls st m hm h
    have h' : (match cw_cd y pc with | none => False | some q => cw_G (fun pc ls st m => bif cs.elem pc then cw_R d y pc ls st m Q else la_V d y gs cs Q k pc ls st m) (la_C (cw_D d)) Q ls m (bif gs.elem pc then hb_stp q ls st m else la_stp q ls st m)) := h
    refine cw_R_step ?_
    unfold cw_S
    cases hq : cw_cd y pc with
    | none => rw [hq] at h'; exact h'
    | some q =>
      rw [hq] at h'
      have hKK : ∀ (pc : Nat) (ls st : List cw_V) (m : cw_M), la_ok m → (bif cs.elem pc then cw_R d y pc ls st m Q else la_V d y gs cs Q k pc ls st m) → cw_R d y pc ls st m Q := fun pc ls st m hm h => by
        cases hc : cs.elem pc with
        | true => rw [hc] at h; exact h
        | false => rw [hc] at h; exact ih hm h
      have hCC : ∀ (z : Nat) (as : List cw_V) (m : cw_M) (R R' : Option cw_V → cw_M → Prop), (∀ r m, R r m → R' r m) → cw_D d z as m R → cw_D d z as m R' := fun z as m R R' hR h => by
        match d, h with
        | d + 1, h => exact cw_C_mono (Nat.le_refl d) hR h
      have h2 : cw_G (fun pc ls st m => bif cs.elem pc then cw_R d y pc ls st m Q else la_V d y gs cs Q k pc ls st m) (la_C (cw_D d)) Q ls m (bif gs.elem pc then hb_stp q ls st m else la_stp q ls st m) := h'
      cases hg : gs.elem pc with
      | true => rw [hg] at h2; exact hb_step hm hKK hCC h2
      | false => rw [hg] at h2; exact la_step hm hKK hCC h2
theorem la_go_CV {d y : Nat} {as : List cw_V} {m : cw_M} {Q : Option cw_V → cw_M → Prop} (hm : la_ok m) (k : Nat) (gs cs : List Nat) (h : la_V d y gs cs Q k 0 (cw_en as (cw_ml y)) [] m) : cw_C d y as m Q := la_V_R k hm h
theorem la_go_RV {d y pc : Nat} {ls st : List cw_V} {m : cw_M} {Q : Option cw_V → cw_M → Prop} (hm : la_ok m) (k : Nat) (gs cs : List Nat) (h : la_V d y gs cs Q k pc ls st m) : cw_R d y pc ls st m Q := la_V_R k hm h
