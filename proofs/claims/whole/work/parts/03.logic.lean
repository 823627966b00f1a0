/-- what one step asks: of the way on (K), of the callee (C), of the end (Q) -/
def cw_G (K : Nat → List cw_V → List cw_V → cw_M → Prop) (C : Nat → List cw_V → cw_M → (Option cw_V → cw_M → Prop) → Prop) (Q : Option cw_V → cw_M → Prop) (ls : List cw_V) (m : cw_M) (o : Option cw_O) : Prop := match o with
  | none => False
  | some (.inl (pc, ls, st, m)) => K pc ls st m
  | some (.inr (.inl (P, pc, ls, st, m))) => P ∧ K pc ls st m
  | some (.inr (.inr (.inl (P, t, f, st)))) => (P → K t ls st m) ∧ (¬ P → K f ls st m)
  | some (.inr (.inr (.inr (.inl (y, as, pc, st))))) => C y as m fun r m' => K pc ls (r.toList ++ st) m'
  | some (.inr (.inr (.inr (.inr (.inl (P, y, as, pc, st)))))) => P ∧ C y as m fun r m' => K pc ls (r.toList ++ st) m'
  | some (.inr (.inr (.inr (.inr (.inr (.inl r)))))) => Q r m
  | some (.inr (.inr (.inr (.inr (.inr (.inr (P, r))))))) => P ∧ Q r m
def cw_S (K : Nat → List cw_V → List cw_V → cw_M → Prop) (C : Nat → List cw_V → cw_M → (Option cw_V → cw_M → Prop) → Prop) (Q : Option cw_V → cw_M → Prop) (y pc : Nat) (ls st : List cw_V) (m : cw_M) : Prop := match cw_cd y pc with
  | none => False
  | some q => cw_G K C Q ls m (cw_stp q ls st m)
def cw_dd (F : Nat → Nat → List cw_V → cw_M → (Option cw_V → cw_M → Prop) → Prop) (d : Nat) : Nat → List cw_V → cw_M → (Option cw_V → cw_M → Prop) → Prop := match d with
  | 0 => fun _ _ _ _ => False
  | d + 1 => F d
/-- with so much fuel n, at most d calls deep, method y at pc comes to an end with Q -/
def cw_Rn : Nat → Nat → Nat → Nat → List cw_V → List cw_V → cw_M → (Option cw_V → cw_M → Prop) → Prop
  | 0, _, _, _, _, _, _, _ => False
  | n + 1, d, y, pc, ls, st, m, Q => cw_S (fun pc ls st m => cw_Rn n d y pc ls st m Q) (cw_dd (fun d y as m Q => cw_Rn n d y 0 (cw_en as (cw_ml y)) [] m Q) d) Q y pc ls st m
def cw_R (d y pc : Nat) (ls st : List cw_V) (m : cw_M) (Q : Option cw_V → cw_M → Prop) : Prop := ∃ n, cw_Rn n d y pc ls st m Q
/-- a call -/
def cw_C (d y : Nat) (as : List cw_V) (m : cw_M) (Q : Option cw_V → cw_M → Prop) : Prop := cw_R d y 0 (cw_en as (cw_ml y)) [] m Q
abbrev cw_D (d : Nat) : Nat → List cw_V → cw_M → (Option cw_V → cw_M → Prop) → Prop := cw_dd cw_C d
theorem cw_G_mono {K K' : Nat → List cw_V → List cw_V → cw_M → Prop} {C C' : Nat → List cw_V → cw_M → (Option cw_V → cw_M → Prop) → Prop} {Q Q' : Option cw_V → cw_M → Prop} (hK : ∀ pc ls st m, K pc ls st m → K' pc ls st m) (hC : ∀ y as m R R', (∀ r m, R r m → R' r m) → C y as m R → C' y as m R') (hQ : ∀ r m, Q r m → Q' r m) {ls : List cw_V} {m : cw_M} {o : Option cw_O} (h : cw_G K C Q ls m o) : cw_G K' C' Q' ls m o := by
  unfold cw_G at h ⊢
  split at h
  · exact h
  · exact hK _ _ _ _ h
  · exact ⟨h.1, hK _ _ _ _ h.2⟩
  · exact ⟨fun p => hK _ _ _ _ (h.1 p), fun p => hK _ _ _ _ (h.2 p)⟩
  · exact hC _ _ _ _ _ (fun r m h => hK _ _ _ _ h) h
  · exact ⟨h.1, hC _ _ _ _ _ (fun r m h => hK _ _ _ _ h) h.2⟩
  · exact hQ _ _ h
  · exact ⟨h.1, hQ _ _ h.2⟩
theorem cw_S_mono {K K' : Nat → List cw_V → List cw_V → cw_M → Prop} {C C' : Nat → List cw_V → cw_M → (Option cw_V → cw_M → Prop) → Prop} {Q Q' : Option cw_V → cw_M → Prop} (hK : ∀ pc ls st m, K pc ls st m → K' pc ls st m) (hC : ∀ y as m R R', (∀ r m, R r m → R' r m) → C y as m R → C' y as m R') (hQ : ∀ r m, Q r m → Q' r m) {y pc : Nat} {ls st : List cw_V} {m : cw_M} (h : cw_S K C Q y pc ls st m) : cw_S K' C' Q' y pc ls st m := by
  unfold cw_S at h ⊢
  split at h
  · exact h
  · exact cw_G_mono hK hC hQ h
theorem cw_Rn_mono : ∀ (n : Nat) {n' d d' y pc : Nat} {ls st : List cw_V} {m : cw_M} {Q Q' : Option cw_V → cw_M → Prop}, n ≤ n' → d ≤ d' → (∀ r m, Q r m → Q' r m) → cw_Rn n d y pc ls st m Q → cw_Rn n' d' y pc ls st m Q' := by
  intro n
  induction n with
  | zero => intro n' d d' y pc ls st m Q Q' _ _ _ h; exact h.elim
  | succ n ih =>
    intro n' d d' y pc ls st m Q Q' hn hd hQ h
    obtain ⟨k, rfl⟩ : ∃ k, n' = k + 1 := ⟨n' - 1, by omega⟩
    refine cw_S_mono (fun pc ls st m h => ih (by omega) hd hQ h) (fun y as m R R' hR h => ?_) hQ h
    match d, d', hd, h with
    | 0, _, _, h => exact h.elim
    | d + 1, d' + 1, hd, h => exact ih (by omega) (by omega) hR h
theorem cw_R_mono {d d' y pc : Nat} {ls st : List cw_V} {m : cw_M} {Q Q' : Option cw_V → cw_M → Prop} (hd : d ≤ d') (hQ : ∀ r m, Q r m → Q' r m) (h : cw_R d y pc ls st m Q) : cw_R d' y pc ls st m Q' := by
  obtain ⟨n, h⟩ := h
  exact ⟨n, cw_Rn_mono n (Nat.le_refl n) hd hQ h⟩
theorem cw_C_mono {d d' y : Nat} {as : List cw_V} {m : cw_M} {Q Q' : Option cw_V → cw_M → Prop} (hd : d ≤ d') (hQ : ∀ r m, Q r m → Q' r m) (h : cw_C d y as m Q) : cw_C d' y as m Q' := cw_R_mono hd hQ h
/-- the end is one -/
theorem cw_Rn_one : ∀ (n : Nat) {d y pc : Nat} {ls st : List cw_V} {m : cw_M} {Q : Option cw_V → cw_M → Prop}, cw_Rn n d y pc ls st m Q → ∃ (r : Option cw_V) (m' : cw_M), Q r m' ∧ cw_Rn n d y pc ls st m (fun r' m2 => r' = r ∧ m2 = m') := by
  intro n
  induction n with
  | zero => intro d y pc ls st m Q h; exact h.elim
  | succ n ih =>
    intro d y pc ls st m Q h
    have h0 : cw_S (fun pc ls st m => cw_Rn n d y pc ls st m Q) (cw_dd (fun d y as m Q => cw_Rn n d y 0 (cw_en as (cw_ml y)) [] m Q) d) Q y pc ls st m := h
    show ∃ (r : Option cw_V) (m' : cw_M), Q r m' ∧ cw_S (fun pc ls st m => cw_Rn n d y pc ls st m (fun r' m2 => r' = r ∧ m2 = m')) (cw_dd (fun d y as m Q => cw_Rn n d y 0 (cw_en as (cw_ml y)) [] m Q) d) (fun r' m2 => r' = r ∧ m2 = m') y pc ls st m
    unfold cw_S at h0 ⊢
    split at h0
    · exact h0.elim
    · rename_i q hq
      have call : ∀ {z : Nat} {as : List cw_V} {pc : Nat} {st : List cw_V}, (cw_dd (fun d y as m Q => cw_Rn n d y 0 (cw_en as (cw_ml y)) [] m Q) d) z as m (fun r m' => cw_Rn n d y pc ls (r.toList ++ st) m' Q) → ∃ (r : Option cw_V) (m' : cw_M), Q r m' ∧ (cw_dd (fun d y as m Q => cw_Rn n d y 0 (cw_en as (cw_ml y)) [] m Q) d) z as m (fun r1 m1 => cw_Rn n d y pc ls (r1.toList ++ st) m1 (fun r' m2 => r' = r ∧ m2 = m')) := by
        intro z as pc st h
        match d, h with
        | d + 1, h =>
          obtain ⟨r1, m1, h1, h2⟩ := ih h
          obtain ⟨r, m', h3, h4⟩ := ih h1
          exact ⟨r, m', h3, cw_Rn_mono n (Nat.le_refl n) (Nat.le_refl d) (fun r m h => by obtain ⟨rfl, rfl⟩ := h; exact h4) h2⟩
      unfold cw_G at h0 ⊢
      split at h0
      · exact h0.elim
      · exact ih h0
      · obtain ⟨r, m', h1, h2⟩ := ih h0.2
        exact ⟨r, m', h1, h0.1, h2⟩
      · rename_i P t f st' heq
        by_cases hP : P
        · obtain ⟨r, m', h1, h2⟩ := ih (h0.1 hP)
          exact ⟨r, m', h1, fun _ => h2, fun h => absurd hP h⟩
        · obtain ⟨r, m', h1, h2⟩ := ih (h0.2 hP)
          exact ⟨r, m', h1, fun h => absurd h hP, fun _ => h2⟩
      · exact call h0
      · obtain ⟨r, m', h1, h2⟩ := call h0.2
        exact ⟨r, m', h1, h0.1, h2⟩
      · exact ⟨_, _, h0, rfl, rfl⟩
      · exact ⟨_, _, h0.2, h0.1, rfl, rfl⟩
/-- one step of a method -/
theorem cw_R_step {d y pc : Nat} {ls st : List cw_V} {m : cw_M} {Q : Option cw_V → cw_M → Prop} (h : cw_S (fun pc ls st m => cw_R d y pc ls st m Q) (cw_D d) Q y pc ls st m) : cw_R d y pc ls st m Q := by
  have fin : ∀ n, cw_S (fun pc ls st m => cw_Rn n d y pc ls st m Q) (cw_dd (fun d y as m Q => cw_Rn n d y 0 (cw_en as (cw_ml y)) [] m Q) d) Q y pc ls st m → cw_R d y pc ls st m Q := fun n h => ⟨n + 1, h⟩
  unfold cw_S at h fin
  split at h
  · exact h.elim
  · rename_i q hq
    rw [hq] at fin
    simp only at fin
    have call : ∀ {z : Nat} {as : List cw_V} {pc : Nat} {st : List cw_V}, cw_D d z as m (fun r m' => cw_R d y pc ls (r.toList ++ st) m' Q) → ∃ n, (cw_dd (fun d y as m Q => cw_Rn n d y 0 (cw_en as (cw_ml y)) [] m Q) d) z as m (fun r1 m1 => cw_Rn n d y pc ls (r1.toList ++ st) m1 Q) := by
      intro z as pc st h
      match d, h with
      | d + 1, h =>
        obtain ⟨n, h⟩ := h
        obtain ⟨r1, m1, ⟨k, h1⟩, h2⟩ := cw_Rn_one n h
        exact ⟨n + k, cw_Rn_mono n (by omega) (Nat.le_refl d) (fun r m h => by obtain ⟨rfl, rfl⟩ := h; exact cw_Rn_mono k (by omega) (Nat.le_refl _) (fun _ _ h => h) h1) h2⟩
    generalize cw_stp q ls st m = o at h fin
    unfold cw_G at h fin
    split at h
    · exact h.elim
    · obtain ⟨n, h⟩ := h
      exact fin n h
    · obtain ⟨h1, n, h⟩ := h
      exact fin n ⟨h1, h⟩
    · rename_i P t f st'
      by_cases hP : P
      · obtain ⟨n, h⟩ := h.1 hP
        exact fin n ⟨fun _ => h, fun q => absurd hP q⟩
      · obtain ⟨n, h⟩ := h.2 hP
        exact fin n ⟨fun q => absurd q hP, fun _ => h⟩
    · obtain ⟨n, h⟩ := call h
      exact fin n h
    · obtain ⟨h1, h⟩ := h
      obtain ⟨n, h⟩ := call h
      exact fin n ⟨h1, h⟩
    · exact fin 0 h
    · exact fin 0 h
/-- so many steps at once, but for the places cs, where the way is left open -/
noncomputable def cw_U (d y : Nat) (cs : List Nat) (Q : Option cw_V → cw_M → Prop) (k : Nat) : Nat → List cw_V → List cw_V → cw_M → Prop :=
  Nat.rec (motive := fun _ => Nat → List cw_V → List cw_V → cw_M → Prop) (fun pc ls st m => cw_R d y pc ls st m Q) (fun _ ih pc ls st m => cw_S (fun pc ls st m => bif cs.elem pc then cw_R d y pc ls st m Q else ih pc ls st m) (cw_D d) Q y pc ls st m) k
theorem cw_U_R {d y : Nat} {cs : List Nat} {Q : Option cw_V → cw_M → Prop} : ∀ (k : Nat) {pc : Nat} {ls st : List cw_V} {m : cw_M}, cw_U d y cs Q k pc ls st m → cw_R d y pc ls st m Q := by
  intro k
  induction k with
  | zero => intro pc ls st m h; exact h
  | succ k ih =>
    intro pc ls st m h
    have h' : cw_S (fun pc ls st m => bif cs.elem pc then cw_R d y pc ls st m Q else cw_U d y cs Q k pc ls st m) (cw_D d) Q y pc ls st m := h
    refine cw_R_step (cw_S_mono (fun pc ls st m h => ?_) (fun z as m R R' hR h => ?_) (fun _ _ h => h) h')
    · cases hc : cs.elem pc with
      | true => rw [hc] at h; exact h
      | false => rw [hc] at h; exact ih h
    · match d, h with
      | d + 1, h => exact cw_C_mono (Nat.le_refl d) hR h
theorem cw_go_C {d y : Nat} {as : List cw_V} {m : cw_M} {Q : Option cw_V → cw_M → Prop} (k : Nat) (cs : List Nat) (h : cw_U d y cs Q k 0 (cw_en as (cw_ml y)) [] m) : cw_C d y as m Q := cw_U_R k h
theorem cw_go_R {d y pc : Nat} {ls st : List cw_V} {m : cw_M} {Q : Option cw_V → cw_M → Prop} (k : Nat) (cs : List Nat) (h : cw_U d y cs Q k pc ls st m) : cw_R d y pc ls st m Q := cw_U_R k h
