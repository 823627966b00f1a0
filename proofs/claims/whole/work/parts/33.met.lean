/-! A run of the abstract machine is a contract of the JVM's method. -/
theorem cw_en_len {E : cw_E} : ∀ (as : List cw_V) (n : Nat), cw_cs as ≤ n → (cw_en as n).length = n
  | [], n, _ => by show (List.replicate n none).length = n; simp
  | some (.inr (.inl x)) :: t, n, h => by
    have h : 2 + cw_cs t ≤ n := h
    have := cw_en_len (E := E) t (n - 2) (by omega)
    show (vl x :: none :: cw_en t (n - 2)).length = n
    simp [this]; omega
  | none :: t, n, h => by
    have h : 1 + cw_cs t ≤ n := h
    have := cw_en_len (E := E) t (n - 1) (by omega)
    show (none :: cw_en t (n - 1)).length = n
    simp [this]; omega
  | some (.inl x) :: t, n, h => by
    have h : 1 + cw_cs t ≤ n := h
    have := cw_en_len (E := E) t (n - 1) (by omega)
    show (vi x :: cw_en t (n - 1)).length = n
    simp [this]; omega
  | some (.inr (.inr x)) :: t, n, h => by
    have h : 1 + cw_cs t ≤ n := h
    have := cw_en_len (E := E) t (n - 1) (by omega)
    show (vr x :: cw_en t (n - 1)).length = n
    simp [this]; omega
theorem cw_lg_rep (n i : Nat) : cw_lg (List.replicate n none) i = none := by
  induction n generalizing i with
  | zero => rfl
  | succ n ih =>
    cases i with
    | zero => rfl
    | succ i => exact ih i
/-- a method's first locals are its arguments -/
theorem cw_en_arg {E : cw_E} {L : Nat} {m0 : cw_M} (h0 : cw_m0 E L m0) : ∀ (as : List cw_V) (n k i : Nat) (v : Int ⊕ (Int ⊕ Int)), cw_lg (cw_en as n) i = some v → (k + i, cw_tv E (some v)) ∈ lv_args k (as.map (cw_tv E)) ∧ some v ∈ as
  | [], n, k, i, v, h => by
    have h : cw_lg (List.replicate n none) i = some v := h
    rw [cw_lg_rep] at h; cases h
  | some (.inr (.inl x)) :: t, n, k, i, v, h => by
    have h : cw_lg (vl x :: none :: cw_en t (n - 2)) i = some v := h
    match i, h with
    | 0, h => cases h; exact ⟨List.mem_cons_self, List.mem_cons_self⟩
    | 1, h => cases h
    | i + 2, h =>
      obtain ⟨h1, h2⟩ := cw_en_arg h0 t (n - 2) (k + 2) i v h
      refine ⟨List.mem_cons_of_mem _ ?_, List.mem_cons_of_mem _ h2⟩
      rw [show k + (i + 2) = k + 2 + i by omega]
      exact h1
  | none :: t, n, k, i, v, h => by
    have h : cw_lg (none :: cw_en t (n - 1)) i = some v := h
    match i, h with
    | 0, h => cases h
    | i + 1, h =>
      obtain ⟨h1, h2⟩ := cw_en_arg h0 t (n - 1) (k + 1) i v h
      refine ⟨List.mem_cons_of_mem _ ?_, List.mem_cons_of_mem _ h2⟩
      rw [show k + (i + 1) = k + 1 + i by omega, if_neg (by rw [cw_tvc h0]; decide)]
      exact h1
  | some (.inl x) :: t, n, k, i, v, h => by
    have h : cw_lg (vi x :: cw_en t (n - 1)) i = some v := h
    match i, h with
    | 0, h => cases h; exact ⟨List.mem_cons_self, List.mem_cons_self⟩
    | i + 1, h =>
      obtain ⟨h1, h2⟩ := cw_en_arg h0 t (n - 1) (k + 1) i v h
      refine ⟨List.mem_cons_of_mem _ ?_, List.mem_cons_of_mem _ h2⟩
      rw [show k + (i + 1) = k + 1 + i by omega]
      exact h1
  | some (.inr (.inr x)) :: t, n, k, i, v, h => by
    have h : cw_lg (vr x :: cw_en t (n - 1)) i = some v := h
    match i, h with
    | 0, h => cases h; exact ⟨List.mem_cons_self, List.mem_cons_self⟩
    | i + 1, h =>
      obtain ⟨h1, h2⟩ := cw_en_arg h0 t (n - 1) (k + 1) i v h
      refine ⟨List.mem_cons_of_mem _ ?_, List.mem_cons_of_mem _ h2⟩
      rw [show k + (i + 1) = k + 1 + i by omega, if_neg (by rw [cw_tvc h0]; exact (by decide : ¬ (1 : Nat) = 2))]
      exact h1
theorem cw_sl_len {E : cw_E} {L : Nat} {m0 : cw_M} (h0 : cw_m0 E L m0) : ∀ as : List cw_V, (lg_sl (as.map (cw_tv E))).length = cw_cs as
  | [] => rfl
  | v :: t => by
    have ih := cw_sl_len h0 t
    unfold lg_sl at ih ⊢
    rw [List.map_cons, List.flatMap_cons, List.length_append, ih]
    show _ = cw_ct v + cw_cs t
    rw [cw_tvc h0]
    rcases v with _ | x | x | x <;> rfl
/-- one method, all its steps, when its callees are known -/
theorem cw_walk {p : Program} {l : Launch} {e : Env} {R : Room} {s : State} {mm : MethodId} {args : Array Value} {below : List Frame} {meth : Method} {c : Code} {Z : State → Prop} {E : cw_E} {L : Nat} {m0 mE mF : cw_M} {nL u d : Nat} {rF : Option cw_V}
    (X : cw_X p s mm args meth c E L m0 nL u) (hu : 1 ≤ u ∧ u < 270) (hR : (mF (-1) 0 - mE (-1) 0).toNat ≤ R.cells ∧ (mF (-1) 1 - mE (-1) 1).toNat ≤ R.slots) (hfr : d + 1 ≤ R.frames ∧ 64 * (d + 1) ≤ R.locals)
    (hret : ∀ (pc : Nat) (ls st : List cw_V) (r : Option cw_V) (m : cw_M), r = rF ∧ m = mF → cw_rs u pc st r → cw_WW p l e R s mm args below meth c Z E L m0 mE nL pc ls st m) :
    ∀ (n : Nat), (∀ k, k < n → cw_CH l E L m0 d (cw_dd (fun d y as m Q => cw_Rn k d y 0 (cw_en as (cw_ml y)) [] m Q) d)) → ∀ (pc : Nat) (ls st : List cw_V) (m : cw_M), cw_Rn n d u pc ls st m (fun r' m2 => r' = rF ∧ m2 = mF) → cw_WW p l e R s mm args below meth c Z E L m0 mE nL pc ls st m := by
  intro n
  induction n with
  | zero => intro _ pc ls st m h; exact h.elim
  | succ n ih =>
    intro hch pc ls st m h
    have h0 : cw_S (fun pc ls st m => cw_Rn n d u pc ls st m (fun r' m2 => r' = rF ∧ m2 = mF)) (cw_dd (fun d y as m Q => cw_Rn n d y 0 (cw_en as (cw_ml y)) [] m Q) d) (fun r' m2 => r' = rF ∧ m2 = mF) u pc ls st m := h
    unfold cw_S at h0
    split at h0
    · exact h0.elim
    · rename_i q hq
      obtain ⟨hok, hpc⟩ := cw_okx hu.1 hu.2 hq
      exact cw_sim X hR hfr (hch n (Nat.lt_succ_self n)) (fun pc ls st m h => cw_Rn_lm n hu.1 hu.2 h) (ih (fun k hk => hch k (by omega))) (fun r hr hs => hret pc ls st r m hr hs) hok hpc h0
/-- every method's contract, by fuel -/
theorem cw_met {l : Launch} {E : cw_E} {L : Nat} {m0 : cw_M} (hm0 : cw_m0 E L m0) : ∀ (n d y : Nat) (as : List cw_V) (m mF : cw_M) (rF : Option cw_V), 1 ≤ y → y < 269 → cw_cs as ≤ cw_ml y → cw_Rn n d y 0 (cw_en as (cw_ml y)) [] m (fun r' m2 => r' = rF ∧ m2 = mF) →
    Met l (cw_nm y) (cw_ws y) (cw_rm d m mF) (cw_Pc E L m0 as m) (cw_Qc E L m0 rF mF) (mF (-1) 0 - m (-1) 0).toNat (mF (-1) 1 - m (-1) 1).toNat (cw_AA E) := by
  intro n
  induction n using Nat.strongRecOn with
  | ind n ihn =>
    intro d y as m mF rF y1 y2 hcs h
    obtain ⟨f1, f2, f3, f4, f5, f6⟩ := cw_mfacts y1 y2
    have hch : ∀ k, k < n → cw_CH l E L m0 d (cw_dd (fun d y as m Q => cw_Rn k d y 0 (cw_en as (cw_ml y)) [] m Q) d) := by
      intro k hk z bs m1 Q' z1 z2 hcs1 h1
      match d, h1 with
      | d + 1, h1 =>
        obtain ⟨r, m', hq, h2⟩ := cw_Rn_one k h1
        exact ⟨r, m', hq, cw_Rn_lm k z1 (by omega) h2, d, rfl, ihn k hk d z bs m1 m' r z1 z2 hcs1 h2⟩
    refine va_MetF (cc := cw_by y) (maxL := cw_ml y) (ret := cw_rtt y) (ws' := cw_T) f3 rfl ?_
    intro p e s mm args below meth c s₁ B hml hv
    obtain ⟨rfl, hKV, hKH, hrep, hkk⟩ := hv
    have hts0 := atoms_spec (ws := cw_ws y) B.pre
    have hts : ∀ w ∈ cw_T, w.before (as.map (cw_tv E)).toArray s = true := fun w hw => hts0 w (List.mem_cons_of_mem _ hw)
    have hown : s.vm.findClass (cw_cn (cw_oc y)) = some mm.cls := by rw [← f2]; exact findClass_of_methodNamed B.named
    have hin : cw_kn y = 2 → meth.name = "<init>" := fun hk => by
      rw [(name_of_methodNamed B.named B.method).1]
      exact (cw_instm y1 y2 (by omega)).2 hk
    have hbs : E.2.2.1 ≤ s.heap.size := by rw [hrep.1.2]; exact Nat.le_add_right _ _
    have X : cw_X p s mm (as.map (cw_tv E)).toArray meth c E L m0 (cw_ml y) y := ⟨B.exec, B.bytes, hml, B.returns, B.notSynchronized, hown, hts, hKV, hKH, hm0, hin, hbs⟩
    have hl := lv_entry (as.map (cw_tv E)) (n := cw_ml y) (by rw [cw_sl_len hm0]; exact hcs)
    have W0 := cw_walk (l := l) (e := e) (R := (headSpec (cw_ws y) (cw_rm d m mF)).room) (below := below) (Z := MQ below (cw_Qc E L m0 rF mF) (as.map (cw_tv E)).toArray s (mF (-1) 0 - m (-1) 0).toNat (mF (-1) 1 - m (-1) 1).toNat (cw_AA E)) (mE := m) (mF := mF) (d := d) (rF := rF) X ⟨y1, by omega⟩ ⟨Nat.le_refl _, Nat.le_refl _⟩ ⟨Nat.le_refl _, Nat.le_refl _⟩ (fun pc ls st r m2 hr hs => by obtain ⟨rfl, rfl⟩ := hr; exact si_ret X hs) n hch 0 _ [] m h
    rw [lg_entry_eq]
    generalize (lg_sl (as.map (cw_tv E)) ++ List.replicate (cw_ml y - (lg_sl (as.map (cw_tv E))).length) Slot.unset).toArray = LS at hl ⊢
    have W1 := W0 s.heap [] LS ⟨hrep, va_S.rf, ⟨⟨hl.1, hl.2.1⟩, Nat.le_of_eq (cw_en_len (E := E) as _ hcs), fun i v hv => by
      have := hl.2.2 _ (cw_en_arg hm0 as _ 0 i v hv).1
      rw [show 0 + i = i by omega] at this
      exact this⟩, fun v hv => (by cases hv), fun i v hv => hkk _ (cw_en_arg hm0 as _ 0 i v hv).2, Int.le_refl _, Int.le_refl _⟩
    rw [show (m (-1) 0 - m (-1) 0).toNat = 0 by omega, show (m (-1) 1 - m (-1) 1).toNat = 0 by omega] at W1
    exact W1
