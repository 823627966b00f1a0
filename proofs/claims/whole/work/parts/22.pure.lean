/-! One step of the abstract machine, carried over to the JVM: what leaves the heap as it is. -/
def cw_X (p : Program) (s : State) (mm : MethodId) (args : Array Value) (meth : Method) (c : Code) (E : cw_E) (L : Nat) (m0 : cw_M) (nL u : Nat) : Prop :=
  p.tables.exec = Jvm.exec ∧ c.code = cw_by u ∧ c.maxLocals = nL ∧ meth.sig.returnType = cw_rtt u ∧ meth.locks = false ∧ s.vm.findClass (cw_cn (cw_oc u)) = some mm.cls ∧ (∀ w ∈ cw_T, w.before args s = true) ∧ cw_KV E s ∧ cw_KH E L m0 s s.heap ∧ cw_m0 E L m0 ∧ (cw_kn u = 2 → meth.name = "<init>") ∧ E.2.2.1 ≤ s.heap.size
def cw_WW (p : Program) (l : Launch) (e : Env) (R : Room) (s : State) (mm : MethodId) (args : Array Value) (below : List Frame) (meth : Method) (c : Code) (Z : State → Prop) (E : cw_E) (L : Nat) (m0 mE : cw_M) (nL : Nat) (pc : Nat) (ls st : List cw_V) (m : cw_M) : Prop :=
  ∀ (H : Heap) (locs : List Loc) (LS : Array Slot), cw_J E L m0 s nL mE ls st m H locs LS → W p l e R s mm args below meth c H locs (m (-1) 0 - mE (-1) 0).toNat (m (-1) 1 - mE (-1) 1).toNat Z (F0 mm pc LS (st.map (cw_tv E)))
section CWX
variable {p : Program} {l : Launch} {e : Env} {R : Room} {s : State} {mm : MethodId} {args : Array Value} {below : List Frame} {meth : Method} {c : Code} {Z : State → Prop} {E : cw_E} {L : Nat} {m0 mE : cw_M} {nL u : Nat}
variable {K : Nat → List cw_V → List cw_V → cw_M → Prop} {C : Nat → List cw_V → cw_M → (Option cw_V → cw_M → Prop) → Prop} {Q : Option cw_V → cw_M → Prop} {ls st : List cw_V} {m : cw_M} {pc len a b : Nat} {x y : Int}
theorem cw_J_st {st' : List cw_V} {H : Heap} {locs : List Loc} {LS : Array Slot} (J : cw_J E L m0 s nL mE ls st m H locs LS) (h : ∀ v ∈ st', cw_kk L m v) : cw_J E L m0 s nL mE ls st' m H locs LS := ⟨J.1, J.2.1, J.2.2.1, h, J.2.2.2.2⟩
theorem cw_all1 {P : cw_V → Prop} {v : cw_V} {t : List cw_V} (h1 : P v) (h2 : ∀ w ∈ t, P w) : ∀ w ∈ v :: t, P w := fun w hw => by
  rcases List.mem_cons.mp hw with rfl | hw
  · exact h1
  · exact h2 w hw

theorem cw_by8 {n : Int} (h : -128 ≤ n ∧ n < 128) : (Int8.ofInt n).toInt32 = Int32.ofInt n := by
  apply Int32.toInt.inj
  rw [Int8.toInt_toInt32, Int8.toInt_ofInt, cw_ti ⟨by omega, by omega⟩]
  show Int.bmod n 256 = n
  rw [Int.bmod_def]; split <;> omega
theorem cw_by16 {n : Int} (h : -32768 ≤ n ∧ n < 32768) : (Int16.ofInt n).toInt32 = Int32.ofInt n := by
  apply Int32.toInt.inj
  rw [Int16.toInt_toInt32, Int16.toInt_ofInt, cw_ti ⟨by omega, by omega⟩]
  show Int.bmod n 65536 = n
  rw [Int.bmod_def]; split <;> omega
theorem cw_lok {L : Nat} {m : cw_M} {ls l' : List cw_V} {n : Nat} {v : Int ⊕ (Int ⊕ Int)} (h : ∀ (i : Nat) (w : Int ⊕ (Int ⊕ Int)), cw_lg ls i = some w → cw_kk L m (some w)) (h4 : cw_lg l' n = some v) (h5 : ∀ j : Nat, j ≠ n → cw_lg l' j = cw_lg ls j ∧ (j + 1 = n → ∀ z, cw_lg ls j ≠ vl z) ∨ j ≠ n ∧ cw_lg l' j = none) (hv : cw_kk L m (some v)) : ∀ (i : Nat) (w : Int ⊕ (Int ⊕ Int)), cw_lg l' i = some w → cw_kk L m (some w) := by
  intro i w hw
  by_cases hi : i = n
  · subst hi
    rw [h4] at hw
    cases hw
    exact hv
  · rcases h5 i hi with q | q
    · exact h i w (by rw [← q.1]; exact hw)
    · rw [q.2] at hw; cases hw
theorem cw_lok2 {L : Nat} {m : cw_M} {ls l' : List cw_V} {n : Nat} {v : Int ⊕ (Int ⊕ Int)} (h : ∀ (i : Nat) (w : Int ⊕ (Int ⊕ Int)), cw_lg ls i = some w → cw_kk L m (some w)) (h4 : cw_lg l' n = some v) (h6 : cw_lg l' (n + 1) = none) (h5 : ∀ j : Nat, j ≠ n → j ≠ n + 1 → cw_lg l' j = cw_lg ls j ∧ (j + 1 = n → ∀ z, cw_lg ls j ≠ vl z) ∨ cw_lg l' j = none) (hv : cw_kk L m (some v)) : ∀ (i : Nat) (w : Int ⊕ (Int ⊕ Int)), cw_lg l' i = some w → cw_kk L m (some w) := by
  intro i w hw
  by_cases hi : i = n
  · subst hi
    rw [h4] at hw
    cases hw
    exact hv
  · by_cases hi2 : i = n + 1
    · subst hi2
      rw [h6] at hw; cases hw
    · rcases h5 i hi hi2 with q | q
      · exact h i w (by rw [← q.1]; exact hw)
      · rw [q] at hw; cases hw
theorem si_iconst (X : cw_X p s mm args meth c E L m0 nL u) {n : Int} (hd : decode (cw_by u) pc = .ok (.iconst n, 1)) (hr : cw_r n) (hgo : ∀ pc ls st m, K pc ls st m → cw_WW p l e R s mm args below meth c Z E L m0 mE nL pc ls st m) (h : cw_G K C Q ls m (cw_stp (pc, 1, .iconst n, a, b, n, y) ls st m)) : cw_WW p l e R s mm args below meth c Z E L m0 mE nL pc ls st m := by
  obtain ⟨hx, hb, -, -, -, hown, hts, hKV, hKH, h0, -⟩ := X
  intro H locs LS J
  refine lv_iconst (v := Int32.ofInt n) hx hb hd rfl ?_
  exact hgo _ _ _ _ (h : K (pc + 1) ls (vi n :: st) m) H locs LS (cw_J_st J (cw_all1 (hr : cw_r n) J.2.2.2.1))
theorem si_bipush (X : cw_X p s mm args meth c E L m0 nL u) {n : Int} (hd : decode (cw_by u) pc = .ok (.bipush n, 2)) (hr : -128 ≤ n ∧ n < 128) (hgo : ∀ pc ls st m, K pc ls st m → cw_WW p l e R s mm args below meth c Z E L m0 mE nL pc ls st m) (h : cw_G K C Q ls m (cw_stp (pc, 2, .bipush n, a, b, n, y) ls st m)) : cw_WW p l e R s mm args below meth c Z E L m0 mE nL pc ls st m := by
  obtain ⟨hx, hb, -, -, -, hown, hts, hKV, hKH, h0, -⟩ := X
  intro H locs LS J
  refine lv_bipush (v := Int32.ofInt n) hx hb hd (cw_by8 hr) ?_
  exact hgo _ _ _ _ (h : K (pc + 2) ls (vi n :: st) m) H locs LS (cw_J_st J (cw_all1 (show cw_r n from ⟨by have := hr.1; omega, by have := hr.2; omega⟩) J.2.2.2.1))
theorem si_sipush (X : cw_X p s mm args meth c E L m0 nL u) {n : Int} (hd : decode (cw_by u) pc = .ok (.sipush n, 3)) (hr : -32768 ≤ n ∧ n < 32768) (hgo : ∀ pc ls st m, K pc ls st m → cw_WW p l e R s mm args below meth c Z E L m0 mE nL pc ls st m) (h : cw_G K C Q ls m (cw_stp (pc, 3, .sipush n, a, b, n, y) ls st m)) : cw_WW p l e R s mm args below meth c Z E L m0 mE nL pc ls st m := by
  obtain ⟨hx, hb, -, -, -, hown, hts, hKV, hKH, h0, -⟩ := X
  intro H locs LS J
  refine lv_sipush (v := Int32.ofInt n) hx hb hd (cw_by16 hr) ?_
  exact hgo _ _ _ _ (h : K (pc + 3) ls (vi n :: st) m) H locs LS (cw_J_st J (cw_all1 (show cw_r n from ⟨by have := hr.1; omega, by have := hr.2; omega⟩) J.2.2.2.1))
theorem si_lconst (X : cw_X p s mm args meth c E L m0 nL u) {n : Fin 2} (hd : decode (cw_by u) pc = .ok (.lconst n, 1)) (hgo : ∀ pc ls st m, K pc ls st m → cw_WW p l e R s mm args below meth c Z E L m0 mE nL pc ls st m) (h : cw_G K C Q ls m (cw_stp (pc, 1, .lconst n, a, b, ((n : Nat) : Int), y) ls st m)) : cw_WW p l e R s mm args below meth c Z E L m0 mE nL pc ls st m := by
  obtain ⟨hx, hb, -, -, -, hown, hts, hKV, hKH, h0, -⟩ := X
  intro H locs LS J
  refine lv_lconst (v := Int64.ofInt ((n : Nat) : Int)) hx hb hd rfl ?_
  exact hgo _ _ _ _ (h : K (pc + 1) ls (vl ((n : Nat) : Int) :: st) m) H locs LS (cw_J_st J (cw_all1 (show cw_rl ((n : Nat) : Int) from ⟨by have := n.2; omega, by have := n.2; omega⟩) J.2.2.2.1))
theorem si_null (X : cw_X p s mm args meth c E L m0 nL u) (hd : decode (cw_by u) pc = .ok (.aconst_null, 1)) (hgo : ∀ pc ls st m, K pc ls st m → cw_WW p l e R s mm args below meth c Z E L m0 mE nL pc ls st m) (h : cw_G K C Q ls m (cw_stp (pc, 1, .aconst_null, a, b, x, y) ls st m)) : cw_WW p l e R s mm args below meth c Z E L m0 mE nL pc ls st m := by
  obtain ⟨hx, hb, -, -, -, hown, hts, hKV, hKH, h0, -⟩ := X
  intro H locs LS J
  refine lv_null hx hb hd ?_
  exact hgo _ _ _ _ (h : K (pc + 1) ls (vr 0 :: st) m) H locs LS (cw_J_st J (cw_all1 (Or.inl rfl) J.2.2.2.1))
theorem si_iload (X : cw_X p s mm args meth c E L m0 nL u) (hd : decode (cw_by u) pc = .ok (.iload a, 2)) (hgo : ∀ pc ls st m, K pc ls st m → cw_WW p l e R s mm args below meth c Z E L m0 mE nL pc ls st m) (h : cw_G K C Q ls m (cw_stp (pc, 2, .iload a, a, b, x, y) ls st m)) : cw_WW p l e R s mm args below meth c Z E L m0 mE nL pc ls st m := by
  obtain ⟨hx, hb, -, -, -, hown, hts, hKV, hKH, h0, -⟩ := X
  obtain ⟨v, hv, h⟩ := cw_gi_inv h
  intro H locs LS J
  refine lv_iload hx hb hd (J.2.2.1.2.2 _ _ hv) ?_
  exact hgo _ _ _ _ (h : K (pc + 2) ls (vi v :: st) m) H locs LS (cw_J_st J (cw_all1 (J.2.2.2.2.1 _ _ hv) J.2.2.2.1))
theorem si_iload_n (X : cw_X p s mm args meth c E L m0 nL u) {n : Fin 4} (hd : decode (cw_by u) pc = .ok (.iload_n n, 1)) (hgo : ∀ pc ls st m, K pc ls st m → cw_WW p l e R s mm args below meth c Z E L m0 mE nL pc ls st m) (h : cw_G K C Q ls m (cw_stp (pc, 1, .iload_n n, (n : Nat), b, x, y) ls st m)) : cw_WW p l e R s mm args below meth c Z E L m0 mE nL pc ls st m := by
  obtain ⟨hx, hb, -, -, -, hown, hts, hKV, hKH, h0, -⟩ := X
  obtain ⟨v, hv, h⟩ := cw_gi_inv h
  intro H locs LS J
  refine lv_iload_n hx hb hd rfl (J.2.2.1.2.2 _ _ hv) ?_
  exact hgo _ _ _ _ (h : K (pc + 1) ls (vi v :: st) m) H locs LS (cw_J_st J (cw_all1 (J.2.2.2.2.1 _ _ hv) J.2.2.2.1))
theorem si_lload (X : cw_X p s mm args meth c E L m0 nL u) (hd : decode (cw_by u) pc = .ok (.lload a, 2)) (hgo : ∀ pc ls st m, K pc ls st m → cw_WW p l e R s mm args below meth c Z E L m0 mE nL pc ls st m) (h : cw_G K C Q ls m (cw_stp (pc, 2, .lload a, a, b, x, y) ls st m)) : cw_WW p l e R s mm args below meth c Z E L m0 mE nL pc ls st m := by
  obtain ⟨hx, hb, -, -, -, hown, hts, hKV, hKH, h0, -⟩ := X
  obtain ⟨v, hv, h⟩ := cw_gl_inv h
  intro H locs LS J
  refine lv_lload hx hb hd (J.2.2.1.2.2 _ _ hv) ?_
  exact hgo _ _ _ _ (h : K (pc + 2) ls (vl v :: st) m) H locs LS (cw_J_st J (cw_all1 (J.2.2.2.2.1 _ _ hv) J.2.2.2.1))
theorem si_lload_n (X : cw_X p s mm args meth c E L m0 nL u) {n : Fin 4} (hd : decode (cw_by u) pc = .ok (.lload_n n, 1)) (hgo : ∀ pc ls st m, K pc ls st m → cw_WW p l e R s mm args below meth c Z E L m0 mE nL pc ls st m) (h : cw_G K C Q ls m (cw_stp (pc, 1, .lload_n n, (n : Nat), b, x, y) ls st m)) : cw_WW p l e R s mm args below meth c Z E L m0 mE nL pc ls st m := by
  obtain ⟨hx, hb, -, -, -, hown, hts, hKV, hKH, h0, -⟩ := X
  obtain ⟨v, hv, h⟩ := cw_gl_inv h
  intro H locs LS J
  refine lv_lload_n hx hb hd rfl (J.2.2.1.2.2 _ _ hv) ?_
  exact hgo _ _ _ _ (h : K (pc + 1) ls (vl v :: st) m) H locs LS (cw_J_st J (cw_all1 (J.2.2.2.2.1 _ _ hv) J.2.2.2.1))
theorem si_aload (X : cw_X p s mm args meth c E L m0 nL u) (hd : decode (cw_by u) pc = .ok (.aload a, 2)) (hgo : ∀ pc ls st m, K pc ls st m → cw_WW p l e R s mm args below meth c Z E L m0 mE nL pc ls st m) (h : cw_G K C Q ls m (cw_stp (pc, 2, .aload a, a, b, x, y) ls st m)) : cw_WW p l e R s mm args below meth c Z E L m0 mE nL pc ls st m := by
  obtain ⟨hx, hb, -, -, -, hown, hts, hKV, hKH, h0, -⟩ := X
  obtain ⟨v, hv, h⟩ := cw_gr_inv h
  intro H locs LS J
  have hk := hgo _ _ _ _ (h : K (pc + 2) ls (vr v :: st) m) H locs LS (cw_J_st J (cw_all1 (J.2.2.2.2.1 _ _ hv) J.2.2.2.1))
  have hl := J.2.2.1.2.2 _ _ hv
  have hl : LS[a]? = some (.val (cw_rv E v)) := hl
  have hk : W p l e R s mm args below meth c H locs (m (-1) 0 - mE (-1) 0).toNat (m (-1) 1 - mE (-1) 1).toNat Z (F0 mm (pc + 2) LS (cw_rv E v :: st.map (cw_tv E))) := hk
  rcases cw_rv_or h0 v with q | ⟨z, q⟩
  · rw [q] at hl hk
    exact lv_aloadN hx hb hd hl hk
  · rw [q] at hl hk
    exact lv_aload hx hb hd hl hk
theorem si_aload_n (X : cw_X p s mm args meth c E L m0 nL u) {n : Fin 4} (hd : decode (cw_by u) pc = .ok (.aload_n n, 1)) (hgo : ∀ pc ls st m, K pc ls st m → cw_WW p l e R s mm args below meth c Z E L m0 mE nL pc ls st m) (h : cw_G K C Q ls m (cw_stp (pc, 1, .aload_n n, (n : Nat), b, x, y) ls st m)) : cw_WW p l e R s mm args below meth c Z E L m0 mE nL pc ls st m := by
  obtain ⟨hx, hb, -, -, -, hown, hts, hKV, hKH, h0, -⟩ := X
  obtain ⟨v, hv, h⟩ := cw_gr_inv h
  intro H locs LS J
  have hk := hgo _ _ _ _ (h : K (pc + 1) ls (vr v :: st) m) H locs LS (cw_J_st J (cw_all1 (J.2.2.2.2.1 _ _ hv) J.2.2.2.1))
  have hl := J.2.2.1.2.2 _ _ hv
  have hl : LS[(n : Nat)]? = some (.val (cw_rv E v)) := hl
  have hk : W p l e R s mm args below meth c H locs (m (-1) 0 - mE (-1) 0).toNat (m (-1) 1 - mE (-1) 1).toNat Z (F0 mm (pc + 1) LS (cw_rv E v :: st.map (cw_tv E))) := hk
  rcases cw_rv_or h0 v with q | ⟨z, q⟩
  · rw [q] at hl hk
    exact lv_aload_nN hx hb hd rfl hl hk
  · rw [q] at hl hk
    exact lv_aload_n hx hb hd rfl hl hk
theorem si_istore (X : cw_X p s mm args meth c E L m0 nL u) (hd : decode (cw_by u) pc = .ok (.istore a, 2)) (hgo : ∀ pc ls st m, K pc ls st m → cw_WW p l e R s mm args below meth c Z E L m0 mE nL pc ls st m) (h : cw_G K C Q ls m (cw_stp (pc, 2, .istore a, a, b, x, y) ls st m)) : cw_WW p l e R s mm args below meth c Z E L m0 mE nL pc ls st m := by
  obtain ⟨hx, hb, -, -, -, hown, hts, hKV, hKH, h0, -⟩ := X
  obtain ⟨v, s0, rfl, h⟩ := cw_p1_inv h
  obtain ⟨l', h, h2, h3, h4, h5⟩ := cw_st_inv h
  intro H locs LS J
  refine lv_istore hx hb hd (lv' := (a, cw_tv E (vi v)) :: (cw_lv E ls).filter (fun q => !(q.1 == a) && !(q.1 + 1 == a && q.2.category == 2))) (cw_lr_has J.2.2.1) (Nat.lt_of_lt_of_le h2 J.2.2.1.2.1) rfl (fun LS' hs => ?_)
  exact hgo _ _ _ _ (h : K (pc + 2) l' s0 m) H locs LS' ⟨J.1, J.2.1, cw_lr_st1 h0 J.2.2.1 h3 h4 h5 hs, fun w hw => J.2.2.2.1 w (List.mem_cons_of_mem _ hw), cw_lok J.2.2.2.2.1 h4 h5 (J.2.2.2.1 _ List.mem_cons_self), J.2.2.2.2.2⟩
theorem si_istore_n (X : cw_X p s mm args meth c E L m0 nL u) {n : Fin 4} (hd : decode (cw_by u) pc = .ok (.istore_n n, 1)) (hgo : ∀ pc ls st m, K pc ls st m → cw_WW p l e R s mm args below meth c Z E L m0 mE nL pc ls st m) (h : cw_G K C Q ls m (cw_stp (pc, 1, .istore_n n, (n : Nat), b, x, y) ls st m)) : cw_WW p l e R s mm args below meth c Z E L m0 mE nL pc ls st m := by
  obtain ⟨hx, hb, -, -, -, hown, hts, hKV, hKH, h0, -⟩ := X
  obtain ⟨v, s0, rfl, h⟩ := cw_p1_inv h
  obtain ⟨l', h, h2, h3, h4, h5⟩ := cw_st_inv h
  intro H locs LS J
  refine lv_istore_n hx hb hd rfl (lv' := ((n : Nat), cw_tv E (vi v)) :: (cw_lv E ls).filter (fun q => !(q.1 == (n : Nat)) && !(q.1 + 1 == (n : Nat) && q.2.category == 2))) (cw_lr_has J.2.2.1) (Nat.lt_of_lt_of_le h2 J.2.2.1.2.1) rfl (fun LS' hs => ?_)
  exact hgo _ _ _ _ (h : K (pc + 1) l' s0 m) H locs LS' ⟨J.1, J.2.1, cw_lr_st1 h0 J.2.2.1 h3 h4 h5 hs, fun w hw => J.2.2.2.1 w (List.mem_cons_of_mem _ hw), cw_lok J.2.2.2.2.1 h4 h5 (J.2.2.2.1 _ List.mem_cons_self), J.2.2.2.2.2⟩
theorem si_astore (X : cw_X p s mm args meth c E L m0 nL u) (hd : decode (cw_by u) pc = .ok (.astore a, 2)) (hgo : ∀ pc ls st m, K pc ls st m → cw_WW p l e R s mm args below meth c Z E L m0 mE nL pc ls st m) (h : cw_G K C Q ls m (cw_stp (pc, 2, .astore a, a, b, x, y) ls st m)) : cw_WW p l e R s mm args below meth c Z E L m0 mE nL pc ls st m := by
  obtain ⟨hx, hb, -, -, -, hown, hts, hKV, hKH, h0, -⟩ := X
  obtain ⟨v, s0, rfl, h⟩ := cw_r1_inv h
  obtain ⟨l', h, h2, h3, h4, h5⟩ := cw_st_inv h
  intro H locs LS J
  have hk : ∀ LS' : Array Slot, lv_has LS' nL ((a, cw_rv E v) :: (cw_lv E ls).filter (fun q => !(q.1 == a) && !(q.1 + 1 == a && q.2.category == 2))) → W p l e R s mm args below meth c H locs (m (-1) 0 - mE (-1) 0).toNat (m (-1) 1 - mE (-1) 1).toNat Z (F0 mm (pc + 2) LS' (s0.map (cw_tv E))) := fun LS' hs =>
    hgo _ _ _ _ (h : K (pc + 2) l' s0 m) H locs LS' ⟨J.1, J.2.1, cw_lr_st1 h0 J.2.2.1 h3 h4 h5 hs, fun w hw => J.2.2.2.1 w (List.mem_cons_of_mem _ hw), cw_lok J.2.2.2.2.1 h4 h5 (J.2.2.2.1 _ List.mem_cons_self), J.2.2.2.2.2⟩
  show W p l e R s mm args below meth c H locs (m (-1) 0 - mE (-1) 0).toNat (m (-1) 1 - mE (-1) 1).toNat Z (F0 mm pc LS (cw_rv E v :: s0.map (cw_tv E)))
  rcases cw_rv_or h0 v with q | ⟨z, q⟩
  · rw [q] at hk ⊢
    exact lv_astoreN hx hb hd (cw_lr_has J.2.2.1) (Nat.lt_of_lt_of_le h2 J.2.2.1.2.1) rfl hk
  · rw [q] at hk ⊢
    exact lv_astore hx hb hd (cw_lr_has J.2.2.1) (Nat.lt_of_lt_of_le h2 J.2.2.1.2.1) rfl hk
theorem si_astore_n (X : cw_X p s mm args meth c E L m0 nL u) {n : Fin 4} (hd : decode (cw_by u) pc = .ok (.astore_n n, 1)) (hgo : ∀ pc ls st m, K pc ls st m → cw_WW p l e R s mm args below meth c Z E L m0 mE nL pc ls st m) (h : cw_G K C Q ls m (cw_stp (pc, 1, .astore_n n, (n : Nat), b, x, y) ls st m)) : cw_WW p l e R s mm args below meth c Z E L m0 mE nL pc ls st m := by
  obtain ⟨hx, hb, -, -, -, hown, hts, hKV, hKH, h0, -⟩ := X
  obtain ⟨v, s0, rfl, h⟩ := cw_r1_inv h
  obtain ⟨l', h, h2, h3, h4, h5⟩ := cw_st_inv h
  intro H locs LS J
  have hk : ∀ LS' : Array Slot, lv_has LS' nL (((n : Nat), cw_rv E v) :: (cw_lv E ls).filter (fun q => !(q.1 == (n : Nat)) && !(q.1 + 1 == (n : Nat) && q.2.category == 2))) → W p l e R s mm args below meth c H locs (m (-1) 0 - mE (-1) 0).toNat (m (-1) 1 - mE (-1) 1).toNat Z (F0 mm (pc + 1) LS' (s0.map (cw_tv E))) := fun LS' hs =>
    hgo _ _ _ _ (h : K (pc + 1) l' s0 m) H locs LS' ⟨J.1, J.2.1, cw_lr_st1 h0 J.2.2.1 h3 h4 h5 hs, fun w hw => J.2.2.2.1 w (List.mem_cons_of_mem _ hw), cw_lok J.2.2.2.2.1 h4 h5 (J.2.2.2.1 _ List.mem_cons_self), J.2.2.2.2.2⟩
  show W p l e R s mm args below meth c H locs (m (-1) 0 - mE (-1) 0).toNat (m (-1) 1 - mE (-1) 1).toNat Z (F0 mm pc LS (cw_rv E v :: s0.map (cw_tv E)))
  rcases cw_rv_or h0 v with q | ⟨z, q⟩
  · rw [q] at hk ⊢
    exact lv_astore_nN hx hb hd rfl (cw_lr_has J.2.2.1) (Nat.lt_of_lt_of_le h2 J.2.2.1.2.1) rfl hk
  · rw [q] at hk ⊢
    exact lv_astore_n hx hb hd rfl (cw_lr_has J.2.2.1) (Nat.lt_of_lt_of_le h2 J.2.2.1.2.1) rfl hk
theorem si_lstore (X : cw_X p s mm args meth c E L m0 nL u) (hd : decode (cw_by u) pc = .ok (.lstore a, 2)) (hgo : ∀ pc ls st m, K pc ls st m → cw_WW p l e R s mm args below meth c Z E L m0 mE nL pc ls st m) (h : cw_G K C Q ls m (cw_stp (pc, 2, .lstore a, a, b, x, y) ls st m)) : cw_WW p l e R s mm args below meth c Z E L m0 mE nL pc ls st m := by
  obtain ⟨hx, hb, -, -, -, hown, hts, hKV, hKH, h0, -⟩ := X
  obtain ⟨v, s0, rfl, h⟩ := cw_l1_inv h
  obtain ⟨l1, h, h2, h3, h4, h5⟩ := cw_st_inv h
  obtain ⟨l2, h, g2, g3, g4, g5⟩ := cw_st_inv h
  obtain ⟨l3, h, f2, f3, f4, f5⟩ := cw_st_inv h
  have e3 : l3.length = ls.length := by omega
  have e6 : cw_lg l3 (a + 1) = none := by
    rcases f5 (a + 1) (by omega) with q | q
    · rw [q.1]; exact g4
    · exact q.2
  have e5 : ∀ j : Nat, j ≠ a → j ≠ a + 1 → cw_lg l3 j = cw_lg ls j ∧ (j + 1 = a → ∀ z, cw_lg ls j ≠ vl z) ∨ cw_lg l3 j = none := by
    intro j hj hj2
    rcases f5 j hj with q | q
    · rcases g5 j hj2 with r | r
      · rcases h5 j hj with t | t
        · exact Or.inl ⟨by rw [q.1, r.1, t.1], t.2⟩
        · exact Or.inr (by rw [q.1, r.1, t.2])
      · exact Or.inr (by rw [q.1, r.2])
    · exact Or.inr q.2
  intro H locs LS J
  refine lv_lstore hx hb hd (lv' := (a, cw_tv E (vl v)) :: (cw_lv E ls).filter (fun q => !(q.1 == a) && (!(q.1 == a + 1) && !(q.1 + 1 == a && q.2.category == 2)))) (cw_lr_has J.2.2.1) (by have := J.2.2.1.2.1; omega) rfl (fun LS' hs => ?_)
  exact hgo _ _ _ _ (h : K (pc + 2) l3 s0 m) H locs LS' ⟨J.1, J.2.1, cw_lr_st2 h0 J.2.2.1 e3 f4 e6 e5 hs, fun w hw => J.2.2.2.1 w (List.mem_cons_of_mem _ hw), cw_lok2 J.2.2.2.2.1 f4 e6 e5 (J.2.2.2.1 _ List.mem_cons_self), J.2.2.2.2.2⟩
theorem si_lstore_n (X : cw_X p s mm args meth c E L m0 nL u) {n : Fin 4} (hd : decode (cw_by u) pc = .ok (.lstore_n n, 1)) (hgo : ∀ pc ls st m, K pc ls st m → cw_WW p l e R s mm args below meth c Z E L m0 mE nL pc ls st m) (h : cw_G K C Q ls m (cw_stp (pc, 1, .lstore_n n, (n : Nat), b, x, y) ls st m)) : cw_WW p l e R s mm args below meth c Z E L m0 mE nL pc ls st m := by
  obtain ⟨hx, hb, -, -, -, hown, hts, hKV, hKH, h0, -⟩ := X
  obtain ⟨v, s0, rfl, h⟩ := cw_l1_inv h
  obtain ⟨l1, h, h2, h3, h4, h5⟩ := cw_st_inv h
  obtain ⟨l2, h, g2, g3, g4, g5⟩ := cw_st_inv h
  obtain ⟨l3, h, f2, f3, f4, f5⟩ := cw_st_inv h
  have e3 : l3.length = ls.length := by omega
  have e6 : cw_lg l3 ((n : Nat) + 1) = none := by
    rcases f5 ((n : Nat) + 1) (by omega) with q | q
    · rw [q.1]; exact g4
    · exact q.2
  have e5 : ∀ j : Nat, j ≠ (n : Nat) → j ≠ (n : Nat) + 1 → cw_lg l3 j = cw_lg ls j ∧ (j + 1 = (n : Nat) → ∀ z, cw_lg ls j ≠ vl z) ∨ cw_lg l3 j = none := by
    intro j hj hj2
    rcases f5 j hj with q | q
    · rcases g5 j hj2 with r | r
      · rcases h5 j hj with t | t
        · exact Or.inl ⟨by rw [q.1, r.1, t.1], t.2⟩
        · exact Or.inr (by rw [q.1, r.1, t.2])
      · exact Or.inr (by rw [q.1, r.2])
    · exact Or.inr q.2
  intro H locs LS J
  refine lv_lstore_n hx hb hd rfl (lv' := ((n : Nat), cw_tv E (vl v)) :: (cw_lv E ls).filter (fun q => !(q.1 == (n : Nat)) && (!(q.1 == (n : Nat) + 1) && !(q.1 + 1 == (n : Nat) && q.2.category == 2)))) (cw_lr_has J.2.2.1) (by have := J.2.2.1.2.1; omega) rfl (fun LS' hs => ?_)
  exact hgo _ _ _ _ (h : K (pc + 1) l3 s0 m) H locs LS' ⟨J.1, J.2.1, cw_lr_st2 h0 J.2.2.1 e3 f4 e6 e5 hs, fun w hw => J.2.2.2.1 w (List.mem_cons_of_mem _ hw), cw_lok2 J.2.2.2.2.1 f4 e6 e5 (J.2.2.2.1 _ List.mem_cons_self), J.2.2.2.2.2⟩
theorem si_iinc (X : cw_X p s mm args meth c E L m0 nL u) (hd : decode (cw_by u) pc = .ok (.iinc a x, 3)) (hgo : ∀ pc ls st m, K pc ls st m → cw_WW p l e R s mm args below meth c Z E L m0 mE nL pc ls st m) (h : cw_G K C Q ls m (cw_stp (pc, 3, .iinc a x, a, b, x, y) ls st m)) : cw_WW p l e R s mm args below meth c Z E L m0 mE nL pc ls st m := by
  obtain ⟨hx, hb, -, -, -, hown, hts, hKV, hKH, h0, -⟩ := X
  obtain ⟨v, hv, h⟩ := cw_gi_inv h
  obtain ⟨l', h, h2, h3, h4, h5⟩ := cw_st_inv h
  intro H locs LS J
  obtain ⟨k, hk⟩ := List.getElem?_of_mem (cw_lv_mem (E := E) hv)
  refine lv_iinc (v := Int32.ofInt (cw_w (v + x))) (lv' := (a, cw_tv E (vi (cw_w (v + x)))) :: (cw_lv E ls).filter (fun q => !(q.1 == a) && !(q.1 + 1 == a && q.2.category == 2))) hx hb hd (cw_lr_has J.2.2.1) (k := k) (x := Int32.ofInt v) hk (cw_add v x) (Nat.lt_of_lt_of_le h2 J.2.2.1.2.1) rfl (fun LS' hs => ?_)
  exact hgo _ _ _ _ (h : K (pc + 3) l' st m) H locs LS' ⟨J.1, J.2.1, cw_lr_st1 h0 J.2.2.1 h3 h4 h5 hs, J.2.2.2.1, cw_lok J.2.2.2.2.1 h4 h5 (show cw_kk L m (vi (cw_w (v + x))) from cw_w_r _), J.2.2.2.2.2⟩
theorem si_iadd (X : cw_X p s mm args meth c E L m0 nL u) (hd : decode (cw_by u) pc = .ok (.iadd, 1)) (hgo : ∀ pc ls st m, K pc ls st m → cw_WW p l e R s mm args below meth c Z E L m0 mE nL pc ls st m) (h : cw_G K C Q ls m (cw_stp (pc, 1, .iadd, a, b, x, y) ls st m)) : cw_WW p l e R s mm args below meth c Z E L m0 mE nL pc ls st m := by
  obtain ⟨hx, hb, -, -, -, hown, hts, hKV, hKH, h0, -⟩ := X
  obtain ⟨w, v, s0, rfl, h⟩ := cw_p2_inv h
  intro H locs LS J
  have hv := J.2.2.2.1 _ List.mem_cons_self
  have hw := J.2.2.2.1 _ (List.mem_cons_of_mem _ List.mem_cons_self)
  have hs := fun z hz => J.2.2.2.1 z (List.mem_cons_of_mem _ (List.mem_cons_of_mem _ hz))
  refine lv_iadd hx hb hd ?_
  rw [cw_add]
  exact hgo _ _ _ _ (h : K (pc + 1) ls (vi (cw_w (w + v)) :: s0) m) H locs LS (cw_J_st J (cw_all1 (cw_w_r _) hs))
theorem si_isub (X : cw_X p s mm args meth c E L m0 nL u) (hd : decode (cw_by u) pc = .ok (.isub, 1)) (hgo : ∀ pc ls st m, K pc ls st m → cw_WW p l e R s mm args below meth c Z E L m0 mE nL pc ls st m) (h : cw_G K C Q ls m (cw_stp (pc, 1, .isub, a, b, x, y) ls st m)) : cw_WW p l e R s mm args below meth c Z E L m0 mE nL pc ls st m := by
  obtain ⟨hx, hb, -, -, -, hown, hts, hKV, hKH, h0, -⟩ := X
  obtain ⟨w, v, s0, rfl, h⟩ := cw_p2_inv h
  intro H locs LS J
  have hv := J.2.2.2.1 _ List.mem_cons_self
  have hw := J.2.2.2.1 _ (List.mem_cons_of_mem _ List.mem_cons_self)
  have hs := fun z hz => J.2.2.2.1 z (List.mem_cons_of_mem _ (List.mem_cons_of_mem _ hz))
  refine lv_isub hx hb hd ?_
  rw [cw_sub]
  exact hgo _ _ _ _ (h : K (pc + 1) ls (vi (cw_w (w - v)) :: s0) m) H locs LS (cw_J_st J (cw_all1 (cw_w_r _) hs))
theorem si_imul (X : cw_X p s mm args meth c E L m0 nL u) (hd : decode (cw_by u) pc = .ok (.imul, 1)) (hgo : ∀ pc ls st m, K pc ls st m → cw_WW p l e R s mm args below meth c Z E L m0 mE nL pc ls st m) (h : cw_G K C Q ls m (cw_stp (pc, 1, .imul, a, b, x, y) ls st m)) : cw_WW p l e R s mm args below meth c Z E L m0 mE nL pc ls st m := by
  obtain ⟨hx, hb, -, -, -, hown, hts, hKV, hKH, h0, -⟩ := X
  obtain ⟨w, v, s0, rfl, h⟩ := cw_p2_inv h
  intro H locs LS J
  have hv := J.2.2.2.1 _ List.mem_cons_self
  have hw := J.2.2.2.1 _ (List.mem_cons_of_mem _ List.mem_cons_self)
  have hs := fun z hz => J.2.2.2.1 z (List.mem_cons_of_mem _ (List.mem_cons_of_mem _ hz))
  refine lv_imul hx hb hd ?_
  rw [cw_mul]
  exact hgo _ _ _ _ (h : K (pc + 1) ls (vi (cw_w (w * v)) :: s0) m) H locs LS (cw_J_st J (cw_all1 (cw_w_r _) hs))
theorem si_ladd (X : cw_X p s mm args meth c E L m0 nL u) (hd : decode (cw_by u) pc = .ok (.ladd, 1)) (hgo : ∀ pc ls st m, K pc ls st m → cw_WW p l e R s mm args below meth c Z E L m0 mE nL pc ls st m) (h : cw_G K C Q ls m (cw_stp (pc, 1, .ladd, a, b, x, y) ls st m)) : cw_WW p l e R s mm args below meth c Z E L m0 mE nL pc ls st m := by
  obtain ⟨hx, hb, -, -, -, hown, hts, hKV, hKH, h0, -⟩ := X
  obtain ⟨w, v, s0, rfl, h⟩ := cw_l2_inv h
  intro H locs LS J
  have hv := J.2.2.2.1 _ List.mem_cons_self
  have hw := J.2.2.2.1 _ (List.mem_cons_of_mem _ List.mem_cons_self)
  have hs := fun z hz => J.2.2.2.1 z (List.mem_cons_of_mem _ (List.mem_cons_of_mem _ hz))
  refine lv_ladd hx hb hd ?_
  rw [cw_addl]
  exact hgo _ _ _ _ (h : K (pc + 1) ls (vl (cw_wl (w + v)) :: s0) m) H locs LS (cw_J_st J (cw_all1 (cw_wl_r _) hs))
theorem si_lsub (X : cw_X p s mm args meth c E L m0 nL u) (hd : decode (cw_by u) pc = .ok (.lsub, 1)) (hgo : ∀ pc ls st m, K pc ls st m → cw_WW p l e R s mm args below meth c Z E L m0 mE nL pc ls st m) (h : cw_G K C Q ls m (cw_stp (pc, 1, .lsub, a, b, x, y) ls st m)) : cw_WW p l e R s mm args below meth c Z E L m0 mE nL pc ls st m := by
  obtain ⟨hx, hb, -, -, -, hown, hts, hKV, hKH, h0, -⟩ := X
  obtain ⟨w, v, s0, rfl, h⟩ := cw_l2_inv h
  intro H locs LS J
  have hv := J.2.2.2.1 _ List.mem_cons_self
  have hw := J.2.2.2.1 _ (List.mem_cons_of_mem _ List.mem_cons_self)
  have hs := fun z hz => J.2.2.2.1 z (List.mem_cons_of_mem _ (List.mem_cons_of_mem _ hz))
  refine lv_lsub hx hb hd ?_
  rw [cw_subl]
  exact hgo _ _ _ _ (h : K (pc + 1) ls (vl (cw_wl (w - v)) :: s0) m) H locs LS (cw_J_st J (cw_all1 (cw_wl_r _) hs))
theorem si_lmul (X : cw_X p s mm args meth c E L m0 nL u) (hd : decode (cw_by u) pc = .ok (.lmul, 1)) (hgo : ∀ pc ls st m, K pc ls st m → cw_WW p l e R s mm args below meth c Z E L m0 mE nL pc ls st m) (h : cw_G K C Q ls m (cw_stp (pc, 1, .lmul, a, b, x, y) ls st m)) : cw_WW p l e R s mm args below meth c Z E L m0 mE nL pc ls st m := by
  obtain ⟨hx, hb, -, -, -, hown, hts, hKV, hKH, h0, -⟩ := X
  obtain ⟨w, v, s0, rfl, h⟩ := cw_l2_inv h
  intro H locs LS J
  have hv := J.2.2.2.1 _ List.mem_cons_self
  have hw := J.2.2.2.1 _ (List.mem_cons_of_mem _ List.mem_cons_self)
  have hs := fun z hz => J.2.2.2.1 z (List.mem_cons_of_mem _ (List.mem_cons_of_mem _ hz))
  refine lv_lmul hx hb hd ?_
  rw [cw_mull]
  exact hgo _ _ _ _ (h : K (pc + 1) ls (vl (cw_wl (w * v)) :: s0) m) H locs LS (cw_J_st J (cw_all1 (cw_wl_r _) hs))
theorem si_idiv (X : cw_X p s mm args meth c E L m0 nL u) (hd : decode (cw_by u) pc = .ok (.idiv, 1)) (hgo : ∀ pc ls st m, K pc ls st m → cw_WW p l e R s mm args below meth c Z E L m0 mE nL pc ls st m) (h : cw_G K C Q ls m (cw_stp (pc, 1, .idiv, a, b, x, y) ls st m)) : cw_WW p l e R s mm args below meth c Z E L m0 mE nL pc ls st m := by
  obtain ⟨hx, hb, -, -, -, hown, hts, hKV, hKH, h0, -⟩ := X
  obtain ⟨w, v, s0, rfl, h⟩ := cw_p2_inv h
  obtain ⟨hne, h⟩ := h
  intro H locs LS J
  have hv := J.2.2.2.1 _ List.mem_cons_self
  have hw := J.2.2.2.1 _ (List.mem_cons_of_mem _ List.mem_cons_self)
  have hs := fun z hz => J.2.2.2.1 z (List.mem_cons_of_mem _ (List.mem_cons_of_mem _ hz))
  refine lv_idiv hx hb hd (fun q => hne ((cw_eq hv cw_rz).mp q)) ?_
  rw [cw_div hw hv]
  exact hgo _ _ _ _ (h : K (pc + 1) ls (vi (cw_w (w.tdiv v)) :: s0) m) H locs LS (cw_J_st J (cw_all1 (cw_w_r _) hs))
theorem si_irem (X : cw_X p s mm args meth c E L m0 nL u) (hd : decode (cw_by u) pc = .ok (.irem, 1)) (hgo : ∀ pc ls st m, K pc ls st m → cw_WW p l e R s mm args below meth c Z E L m0 mE nL pc ls st m) (h : cw_G K C Q ls m (cw_stp (pc, 1, .irem, a, b, x, y) ls st m)) : cw_WW p l e R s mm args below meth c Z E L m0 mE nL pc ls st m := by
  obtain ⟨hx, hb, -, -, -, hown, hts, hKV, hKH, h0, -⟩ := X
  obtain ⟨w, v, s0, rfl, h⟩ := cw_p2_inv h
  obtain ⟨hne, h⟩ := h
  intro H locs LS J
  have hv := J.2.2.2.1 _ List.mem_cons_self
  have hw := J.2.2.2.1 _ (List.mem_cons_of_mem _ List.mem_cons_self)
  have hs := fun z hz => J.2.2.2.1 z (List.mem_cons_of_mem _ (List.mem_cons_of_mem _ hz))
  refine lv_irem hx hb hd (fun q => hne ((cw_eq hv cw_rz).mp q)) ?_
  rw [cw_rem hw hv]
  exact hgo _ _ _ _ (h : K (pc + 1) ls (vi (w.tmod v) :: s0) m) H locs LS (cw_J_st J (cw_all1 (cw_rem_r hw) hs))
theorem si_ldiv (X : cw_X p s mm args meth c E L m0 nL u) (hd : decode (cw_by u) pc = .ok (.ldiv, 1)) (hgo : ∀ pc ls st m, K pc ls st m → cw_WW p l e R s mm args below meth c Z E L m0 mE nL pc ls st m) (h : cw_G K C Q ls m (cw_stp (pc, 1, .ldiv, a, b, x, y) ls st m)) : cw_WW p l e R s mm args below meth c Z E L m0 mE nL pc ls st m := by
  obtain ⟨hx, hb, -, -, -, hown, hts, hKV, hKH, h0, -⟩ := X
  obtain ⟨w, v, s0, rfl, h⟩ := cw_l2_inv h
  obtain ⟨hne, h⟩ := h
  intro H locs LS J
  have hv := J.2.2.2.1 _ List.mem_cons_self
  have hw := J.2.2.2.1 _ (List.mem_cons_of_mem _ List.mem_cons_self)
  have hs := fun z hz => J.2.2.2.1 z (List.mem_cons_of_mem _ (List.mem_cons_of_mem _ hz))
  refine lv_ldiv hx hb hd (fun q => hne ((cw_eql hv ⟨by decide, by decide⟩).mp q)) ?_
  rw [cw_divl hw hv]
  exact hgo _ _ _ _ (h : K (pc + 1) ls (vl (cw_wl (w.tdiv v)) :: s0) m) H locs LS (cw_J_st J (cw_all1 (cw_wl_r _) hs))
theorem si_lrem (X : cw_X p s mm args meth c E L m0 nL u) (hd : decode (cw_by u) pc = .ok (.lrem, 1)) (hgo : ∀ pc ls st m, K pc ls st m → cw_WW p l e R s mm args below meth c Z E L m0 mE nL pc ls st m) (h : cw_G K C Q ls m (cw_stp (pc, 1, .lrem, a, b, x, y) ls st m)) : cw_WW p l e R s mm args below meth c Z E L m0 mE nL pc ls st m := by
  obtain ⟨hx, hb, -, -, -, hown, hts, hKV, hKH, h0, -⟩ := X
  obtain ⟨w, v, s0, rfl, h⟩ := cw_l2_inv h
  obtain ⟨hne, h⟩ := h
  intro H locs LS J
  have hv := J.2.2.2.1 _ List.mem_cons_self
  have hw := J.2.2.2.1 _ (List.mem_cons_of_mem _ List.mem_cons_self)
  have hs := fun z hz => J.2.2.2.1 z (List.mem_cons_of_mem _ (List.mem_cons_of_mem _ hz))
  refine lv_lrem hx hb hd (fun q => hne ((cw_eql hv ⟨by decide, by decide⟩).mp q)) ?_
  rw [cw_reml hw hv]
  exact hgo _ _ _ _ (h : K (pc + 1) ls (vl (w.tmod v) :: s0) m) H locs LS (cw_J_st J (cw_all1 (cw_rem_rl hw) hs))
theorem si_iand (X : cw_X p s mm args meth c E L m0 nL u) (hd : decode (cw_by u) pc = .ok (.iand, 1)) (hgo : ∀ pc ls st m, K pc ls st m → cw_WW p l e R s mm args below meth c Z E L m0 mE nL pc ls st m) (h : cw_G K C Q ls m (cw_stp (pc, 1, .iand, a, b, x, y) ls st m)) : cw_WW p l e R s mm args below meth c Z E L m0 mE nL pc ls st m := by
  obtain ⟨hx, hb, -, -, -, hown, hts, hKV, hKH, h0, -⟩ := X
  obtain ⟨w, v, s0, rfl, h⟩ := cw_p2_inv h
  intro H locs LS J
  have hv := J.2.2.2.1 _ List.mem_cons_self
  have hw := J.2.2.2.1 _ (List.mem_cons_of_mem _ List.mem_cons_self)
  have hs := fun z hz => J.2.2.2.1 z (List.mem_cons_of_mem _ (List.mem_cons_of_mem _ hz))
  refine lv_iand hx hb hd ?_
  rw [show Int32.ofInt w &&& Int32.ofInt v = Int32.ofInt (cw_iand w v) from (cw_ofti _).symm]
  exact hgo _ _ _ _ (h : K (pc + 1) ls (vi (cw_iand w v) :: s0) m) H locs LS (cw_J_st J (cw_all1 (cw_ri32 _) hs))
theorem si_ior (X : cw_X p s mm args meth c E L m0 nL u) (hd : decode (cw_by u) pc = .ok (.ior, 1)) (hgo : ∀ pc ls st m, K pc ls st m → cw_WW p l e R s mm args below meth c Z E L m0 mE nL pc ls st m) (h : cw_G K C Q ls m (cw_stp (pc, 1, .ior, a, b, x, y) ls st m)) : cw_WW p l e R s mm args below meth c Z E L m0 mE nL pc ls st m := by
  obtain ⟨hx, hb, -, -, -, hown, hts, hKV, hKH, h0, -⟩ := X
  obtain ⟨w, v, s0, rfl, h⟩ := cw_p2_inv h
  intro H locs LS J
  have hv := J.2.2.2.1 _ List.mem_cons_self
  have hw := J.2.2.2.1 _ (List.mem_cons_of_mem _ List.mem_cons_self)
  have hs := fun z hz => J.2.2.2.1 z (List.mem_cons_of_mem _ (List.mem_cons_of_mem _ hz))
  refine lv_ior hx hb hd ?_
  rw [show Int32.ofInt w ||| Int32.ofInt v = Int32.ofInt (cw_ior w v) from (cw_ofti _).symm]
  exact hgo _ _ _ _ (h : K (pc + 1) ls (vi (cw_ior w v) :: s0) m) H locs LS (cw_J_st J (cw_all1 (cw_ri32 _) hs))
theorem si_ixor (X : cw_X p s mm args meth c E L m0 nL u) (hd : decode (cw_by u) pc = .ok (.ixor, 1)) (hgo : ∀ pc ls st m, K pc ls st m → cw_WW p l e R s mm args below meth c Z E L m0 mE nL pc ls st m) (h : cw_G K C Q ls m (cw_stp (pc, 1, .ixor, a, b, x, y) ls st m)) : cw_WW p l e R s mm args below meth c Z E L m0 mE nL pc ls st m := by
  obtain ⟨hx, hb, -, -, -, hown, hts, hKV, hKH, h0, -⟩ := X
  obtain ⟨w, v, s0, rfl, h⟩ := cw_p2_inv h
  intro H locs LS J
  have hv := J.2.2.2.1 _ List.mem_cons_self
  have hw := J.2.2.2.1 _ (List.mem_cons_of_mem _ List.mem_cons_self)
  have hs := fun z hz => J.2.2.2.1 z (List.mem_cons_of_mem _ (List.mem_cons_of_mem _ hz))
  refine lv_ixor hx hb hd ?_
  rw [show Int32.ofInt w ^^^ Int32.ofInt v = Int32.ofInt (cw_ixor w v) from (cw_ofti _).symm]
  exact hgo _ _ _ _ (h : K (pc + 1) ls (vi (cw_ixor w v) :: s0) m) H locs LS (cw_J_st J (cw_all1 (cw_ri32 _) hs))
theorem si_ishl (X : cw_X p s mm args meth c E L m0 nL u) (hd : decode (cw_by u) pc = .ok (.ishl, 1)) (hgo : ∀ pc ls st m, K pc ls st m → cw_WW p l e R s mm args below meth c Z E L m0 mE nL pc ls st m) (h : cw_G K C Q ls m (cw_stp (pc, 1, .ishl, a, b, x, y) ls st m)) : cw_WW p l e R s mm args below meth c Z E L m0 mE nL pc ls st m := by
  obtain ⟨hx, hb, -, -, -, hown, hts, hKV, hKH, h0, -⟩ := X
  obtain ⟨w, v, s0, rfl, h⟩ := cw_p2_inv h
  intro H locs LS J
  have hv := J.2.2.2.1 _ List.mem_cons_self
  have hw := J.2.2.2.1 _ (List.mem_cons_of_mem _ List.mem_cons_self)
  have hs := fun z hz => J.2.2.2.1 z (List.mem_cons_of_mem _ (List.mem_cons_of_mem _ hz))
  refine lv_ishl hx hb hd ?_
  rw [show Int32.ofInt w <<< (Int32.ofInt v &&& 31) = Int32.ofInt (cw_ishl w v) from (cw_ofti _).symm]
  exact hgo _ _ _ _ (h : K (pc + 1) ls (vi (cw_ishl w v) :: s0) m) H locs LS (cw_J_st J (cw_all1 (cw_ri32 _) hs))
theorem si_ishr (X : cw_X p s mm args meth c E L m0 nL u) (hd : decode (cw_by u) pc = .ok (.ishr, 1)) (hgo : ∀ pc ls st m, K pc ls st m → cw_WW p l e R s mm args below meth c Z E L m0 mE nL pc ls st m) (h : cw_G K C Q ls m (cw_stp (pc, 1, .ishr, a, b, x, y) ls st m)) : cw_WW p l e R s mm args below meth c Z E L m0 mE nL pc ls st m := by
  obtain ⟨hx, hb, -, -, -, hown, hts, hKV, hKH, h0, -⟩ := X
  obtain ⟨w, v, s0, rfl, h⟩ := cw_p2_inv h
  intro H locs LS J
  have hv := J.2.2.2.1 _ List.mem_cons_self
  have hw := J.2.2.2.1 _ (List.mem_cons_of_mem _ List.mem_cons_self)
  have hs := fun z hz => J.2.2.2.1 z (List.mem_cons_of_mem _ (List.mem_cons_of_mem _ hz))
  refine lv_ishr hx hb hd ?_
  rw [show Int32.ofInt w >>> (Int32.ofInt v &&& 31) = Int32.ofInt (cw_ishr w v) from (cw_ofti _).symm]
  exact hgo _ _ _ _ (h : K (pc + 1) ls (vi (cw_ishr w v) :: s0) m) H locs LS (cw_J_st J (cw_all1 (cw_ri32 _) hs))
theorem si_iushr (X : cw_X p s mm args meth c E L m0 nL u) (hd : decode (cw_by u) pc = .ok (.iushr, 1)) (hgo : ∀ pc ls st m, K pc ls st m → cw_WW p l e R s mm args below meth c Z E L m0 mE nL pc ls st m) (h : cw_G K C Q ls m (cw_stp (pc, 1, .iushr, a, b, x, y) ls st m)) : cw_WW p l e R s mm args below meth c Z E L m0 mE nL pc ls st m := by
  obtain ⟨hx, hb, -, -, -, hown, hts, hKV, hKH, h0, -⟩ := X
  obtain ⟨w, v, s0, rfl, h⟩ := cw_p2_inv h
  intro H locs LS J
  have hv := J.2.2.2.1 _ List.mem_cons_self
  have hw := J.2.2.2.1 _ (List.mem_cons_of_mem _ List.mem_cons_self)
  have hs := fun z hz => J.2.2.2.1 z (List.mem_cons_of_mem _ (List.mem_cons_of_mem _ hz))
  refine lv_iushr (v := Int32.ofInt (cw_iushr w v)) hx hb hd (cw_ofti _).symm ?_
  exact hgo _ _ _ _ (h : K (pc + 1) ls (vi (cw_iushr w v) :: s0) m) H locs LS (cw_J_st J (cw_all1 (cw_ri32 _) hs))
theorem si_land (X : cw_X p s mm args meth c E L m0 nL u) (hd : decode (cw_by u) pc = .ok (.land, 1)) (hgo : ∀ pc ls st m, K pc ls st m → cw_WW p l e R s mm args below meth c Z E L m0 mE nL pc ls st m) (h : cw_G K C Q ls m (cw_stp (pc, 1, .land, a, b, x, y) ls st m)) : cw_WW p l e R s mm args below meth c Z E L m0 mE nL pc ls st m := by
  obtain ⟨hx, hb, -, -, -, hown, hts, hKV, hKH, h0, -⟩ := X
  obtain ⟨w, v, s0, rfl, h⟩ := cw_l2_inv h
  intro H locs LS J
  have hv := J.2.2.2.1 _ List.mem_cons_self
  have hw := J.2.2.2.1 _ (List.mem_cons_of_mem _ List.mem_cons_self)
  have hs := fun z hz => J.2.2.2.1 z (List.mem_cons_of_mem _ (List.mem_cons_of_mem _ hz))
  refine lv_land hx hb hd ?_
  rw [show Int64.ofInt w &&& Int64.ofInt v = Int64.ofInt (cw_land w v) from (cw_oftl _).symm]
  exact hgo _ _ _ _ (h : K (pc + 1) ls (vl (cw_land w v) :: s0) m) H locs LS (cw_J_st J (cw_all1 (cw_ri64 _) hs))
theorem si_lor (X : cw_X p s mm args meth c E L m0 nL u) (hd : decode (cw_by u) pc = .ok (.lor, 1)) (hgo : ∀ pc ls st m, K pc ls st m → cw_WW p l e R s mm args below meth c Z E L m0 mE nL pc ls st m) (h : cw_G K C Q ls m (cw_stp (pc, 1, .lor, a, b, x, y) ls st m)) : cw_WW p l e R s mm args below meth c Z E L m0 mE nL pc ls st m := by
  obtain ⟨hx, hb, -, -, -, hown, hts, hKV, hKH, h0, -⟩ := X
  obtain ⟨w, v, s0, rfl, h⟩ := cw_l2_inv h
  intro H locs LS J
  have hv := J.2.2.2.1 _ List.mem_cons_self
  have hw := J.2.2.2.1 _ (List.mem_cons_of_mem _ List.mem_cons_self)
  have hs := fun z hz => J.2.2.2.1 z (List.mem_cons_of_mem _ (List.mem_cons_of_mem _ hz))
  refine lv_lor hx hb hd ?_
  rw [show Int64.ofInt w ||| Int64.ofInt v = Int64.ofInt (cw_lor w v) from (cw_oftl _).symm]
  exact hgo _ _ _ _ (h : K (pc + 1) ls (vl (cw_lor w v) :: s0) m) H locs LS (cw_J_st J (cw_all1 (cw_ri64 _) hs))
theorem si_lxor (X : cw_X p s mm args meth c E L m0 nL u) (hd : decode (cw_by u) pc = .ok (.lxor, 1)) (hgo : ∀ pc ls st m, K pc ls st m → cw_WW p l e R s mm args below meth c Z E L m0 mE nL pc ls st m) (h : cw_G K C Q ls m (cw_stp (pc, 1, .lxor, a, b, x, y) ls st m)) : cw_WW p l e R s mm args below meth c Z E L m0 mE nL pc ls st m := by
  obtain ⟨hx, hb, -, -, -, hown, hts, hKV, hKH, h0, -⟩ := X
  obtain ⟨w, v, s0, rfl, h⟩ := cw_l2_inv h
  intro H locs LS J
  have hv := J.2.2.2.1 _ List.mem_cons_self
  have hw := J.2.2.2.1 _ (List.mem_cons_of_mem _ List.mem_cons_self)
  have hs := fun z hz => J.2.2.2.1 z (List.mem_cons_of_mem _ (List.mem_cons_of_mem _ hz))
  refine lv_lxor hx hb hd ?_
  rw [show Int64.ofInt w ^^^ Int64.ofInt v = Int64.ofInt (cw_lxor w v) from (cw_oftl _).symm]
  exact hgo _ _ _ _ (h : K (pc + 1) ls (vl (cw_lxor w v) :: s0) m) H locs LS (cw_J_st J (cw_all1 (cw_ri64 _) hs))
theorem si_lshl (X : cw_X p s mm args meth c E L m0 nL u) (hd : decode (cw_by u) pc = .ok (.lshl, 1)) (hgo : ∀ pc ls st m, K pc ls st m → cw_WW p l e R s mm args below meth c Z E L m0 mE nL pc ls st m) (h : cw_G K C Q ls m (cw_stp (pc, 1, .lshl, a, b, x, y) ls st m)) : cw_WW p l e R s mm args below meth c Z E L m0 mE nL pc ls st m := by
  obtain ⟨hx, hb, -, -, -, hown, hts, hKV, hKH, h0, -⟩ := X
  obtain ⟨w, v, s0, rfl, h⟩ := cw_li_inv h
  intro H locs LS J
  have hv := J.2.2.2.1 _ List.mem_cons_self
  have hw := J.2.2.2.1 _ (List.mem_cons_of_mem _ List.mem_cons_self)
  have hs := fun z hz => J.2.2.2.1 z (List.mem_cons_of_mem _ (List.mem_cons_of_mem _ hz))
  refine lv_lshl (v := Int64.ofInt (cw_lshl w v)) hx hb hd (cw_oftl _).symm ?_
  exact hgo _ _ _ _ (h : K (pc + 1) ls (vl (cw_lshl w v) :: s0) m) H locs LS (cw_J_st J (cw_all1 (cw_ri64 _) hs))
theorem si_lshr (X : cw_X p s mm args meth c E L m0 nL u) (hd : decode (cw_by u) pc = .ok (.lshr, 1)) (hgo : ∀ pc ls st m, K pc ls st m → cw_WW p l e R s mm args below meth c Z E L m0 mE nL pc ls st m) (h : cw_G K C Q ls m (cw_stp (pc, 1, .lshr, a, b, x, y) ls st m)) : cw_WW p l e R s mm args below meth c Z E L m0 mE nL pc ls st m := by
  obtain ⟨hx, hb, -, -, -, hown, hts, hKV, hKH, h0, -⟩ := X
  obtain ⟨w, v, s0, rfl, h⟩ := cw_li_inv h
  intro H locs LS J
  have hv := J.2.2.2.1 _ List.mem_cons_self
  have hw := J.2.2.2.1 _ (List.mem_cons_of_mem _ List.mem_cons_self)
  have hs := fun z hz => J.2.2.2.1 z (List.mem_cons_of_mem _ (List.mem_cons_of_mem _ hz))
  refine lv_lshr (v := Int64.ofInt (cw_lshr w v)) hx hb hd (cw_oftl _).symm ?_
  exact hgo _ _ _ _ (h : K (pc + 1) ls (vl (cw_lshr w v) :: s0) m) H locs LS (cw_J_st J (cw_all1 (cw_ri64 _) hs))
theorem si_lcmp (X : cw_X p s mm args meth c E L m0 nL u) (hd : decode (cw_by u) pc = .ok (.lcmp, 1)) (hgo : ∀ pc ls st m, K pc ls st m → cw_WW p l e R s mm args below meth c Z E L m0 mE nL pc ls st m) (h : cw_G K C Q ls m (cw_stp (pc, 1, .lcmp, a, b, x, y) ls st m)) : cw_WW p l e R s mm args below meth c Z E L m0 mE nL pc ls st m := by
  obtain ⟨hx, hb, -, -, -, hown, hts, hKV, hKH, h0, -⟩ := X
  obtain ⟨w, v, s0, rfl, h⟩ := cw_l2_inv h
  intro H locs LS J
  have hv := J.2.2.2.1 _ List.mem_cons_self
  have hw := J.2.2.2.1 _ (List.mem_cons_of_mem _ List.mem_cons_self)
  have hs := fun z hz => J.2.2.2.1 z (List.mem_cons_of_mem _ (List.mem_cons_of_mem _ hz))
  refine W.lcmp hx hb hd ?_
  rw [cw_lgc hw hv]
  exact hgo _ _ _ _ (h : K (pc + 1) ls (vi (cw_lc w v) :: s0) m) H locs LS (cw_J_st J (cw_all1 (by show cw_r (cw_lc w v); unfold cw_lc cw_r; repeat' split <;> omega) hs))
theorem si_ineg (X : cw_X p s mm args meth c E L m0 nL u) (hd : decode (cw_by u) pc = .ok (.ineg, 1)) (hgo : ∀ pc ls st m, K pc ls st m → cw_WW p l e R s mm args below meth c Z E L m0 mE nL pc ls st m) (h : cw_G K C Q ls m (cw_stp (pc, 1, .ineg, a, b, x, y) ls st m)) : cw_WW p l e R s mm args below meth c Z E L m0 mE nL pc ls st m := by
  obtain ⟨hx, hb, -, -, -, hown, hts, hKV, hKH, h0, -⟩ := X
  obtain ⟨v, s0, rfl, h⟩ := cw_p1_inv h
  intro H locs LS J
  have hv := J.2.2.2.1 _ List.mem_cons_self
  have hs := fun z hz => J.2.2.2.1 z (List.mem_cons_of_mem _ hz)
  refine lv_ineg hx hb hd ?_
  rw [cw_neg]
  exact hgo _ _ _ _ (h : K (pc + 1) ls (vi (cw_w (-v)) :: s0) m) H locs LS (cw_J_st J (cw_all1 (cw_w_r _) hs))
theorem si_i2l (X : cw_X p s mm args meth c E L m0 nL u) (hd : decode (cw_by u) pc = .ok (.i2l, 1)) (hgo : ∀ pc ls st m, K pc ls st m → cw_WW p l e R s mm args below meth c Z E L m0 mE nL pc ls st m) (h : cw_G K C Q ls m (cw_stp (pc, 1, .i2l, a, b, x, y) ls st m)) : cw_WW p l e R s mm args below meth c Z E L m0 mE nL pc ls st m := by
  obtain ⟨hx, hb, -, -, -, hown, hts, hKV, hKH, h0, -⟩ := X
  obtain ⟨v, s0, rfl, h⟩ := cw_p1_inv h
  intro H locs LS J
  have hv := J.2.2.2.1 _ List.mem_cons_self
  have hs := fun z hz => J.2.2.2.1 z (List.mem_cons_of_mem _ hz)
  refine lv_i2l (v := Int64.ofInt v) hx hb hd (cw_i2l hv) ?_
  exact hgo _ _ _ _ (h : K (pc + 1) ls (vl v :: s0) m) H locs LS (cw_J_st J (cw_all1 (show cw_rl v from ⟨by have := hv.1; omega, by have := hv.2; omega⟩) hs))
theorem si_l2i (X : cw_X p s mm args meth c E L m0 nL u) (hd : decode (cw_by u) pc = .ok (.l2i, 1)) (hgo : ∀ pc ls st m, K pc ls st m → cw_WW p l e R s mm args below meth c Z E L m0 mE nL pc ls st m) (h : cw_G K C Q ls m (cw_stp (pc, 1, .l2i, a, b, x, y) ls st m)) : cw_WW p l e R s mm args below meth c Z E L m0 mE nL pc ls st m := by
  obtain ⟨hx, hb, -, -, -, hown, hts, hKV, hKH, h0, -⟩ := X
  obtain ⟨v, s0, rfl, h⟩ := cw_l1_inv h
  intro H locs LS J
  have hv := J.2.2.2.1 _ List.mem_cons_self
  have hs := fun z hz => J.2.2.2.1 z (List.mem_cons_of_mem _ hz)
  refine lv_l2i (v := Int32.ofInt (cw_w v)) hx hb hd (cw_l2i v) ?_
  exact hgo _ _ _ _ (h : K (pc + 1) ls (vi (cw_w v) :: s0) m) H locs LS (cw_J_st J (cw_all1 (cw_w_r _) hs))
theorem si_i2b (X : cw_X p s mm args meth c E L m0 nL u) (hd : decode (cw_by u) pc = .ok (.i2b, 1)) (hgo : ∀ pc ls st m, K pc ls st m → cw_WW p l e R s mm args below meth c Z E L m0 mE nL pc ls st m) (h : cw_G K C Q ls m (cw_stp (pc, 1, .i2b, a, b, x, y) ls st m)) : cw_WW p l e R s mm args below meth c Z E L m0 mE nL pc ls st m := by
  obtain ⟨hx, hb, -, -, -, hown, hts, hKV, hKH, h0, -⟩ := X
  obtain ⟨v, s0, rfl, h⟩ := cw_p1_inv h
  intro H locs LS J
  have hv := J.2.2.2.1 _ List.mem_cons_self
  have hs := fun z hz => J.2.2.2.1 z (List.mem_cons_of_mem _ hz)
  refine lv_i2b (v := Int32.ofInt (cw_i2b v)) hx hb hd (cw_i2b_ok v) ?_
  exact hgo _ _ _ _ (h : K (pc + 1) ls (vi (cw_i2b v) :: s0) m) H locs LS (cw_J_st J (cw_all1 (show cw_r (cw_i2b v) by unfold cw_r cw_i2b; omega) hs))
theorem si_i2c (X : cw_X p s mm args meth c E L m0 nL u) (hd : decode (cw_by u) pc = .ok (.i2c, 1)) (hgo : ∀ pc ls st m, K pc ls st m → cw_WW p l e R s mm args below meth c Z E L m0 mE nL pc ls st m) (h : cw_G K C Q ls m (cw_stp (pc, 1, .i2c, a, b, x, y) ls st m)) : cw_WW p l e R s mm args below meth c Z E L m0 mE nL pc ls st m := by
  obtain ⟨hx, hb, -, -, -, hown, hts, hKV, hKH, h0, -⟩ := X
  obtain ⟨v, s0, rfl, h⟩ := cw_p1_inv h
  intro H locs LS J
  have hv := J.2.2.2.1 _ List.mem_cons_self
  have hs := fun z hz => J.2.2.2.1 z (List.mem_cons_of_mem _ hz)
  refine lv_i2c (v := Int32.ofInt (cw_i2c v)) hx hb hd (cw_i2c_ok v) ?_
  exact hgo _ _ _ _ (h : K (pc + 1) ls (vi (cw_i2c v) :: s0) m) H locs LS (cw_J_st J (cw_all1 (show cw_r (cw_i2c v) by unfold cw_r cw_i2c; omega) hs))
theorem si_pop (X : cw_X p s mm args meth c E L m0 nL u) (hd : decode (cw_by u) pc = .ok (.pop, 1)) (hgo : ∀ pc ls st m, K pc ls st m → cw_WW p l e R s mm args below meth c Z E L m0 mE nL pc ls st m) (h : cw_G K C Q ls m (cw_stp (pc, 1, .pop, a, b, x, y) ls st m)) : cw_WW p l e R s mm args below meth c Z E L m0 mE nL pc ls st m := by
  obtain ⟨hx, hb, -, -, -, hown, hts, hKV, hKH, h0, -⟩ := X
  rcases st with _ | ⟨v, s0⟩
  · exact (h : False).elim
  · cases hc : cw_c1 v with
    | false =>
      have h : cw_G K C Q ls m (bif cw_c1 v then cw_go (pc + 1) ls s0 m else none) := h
      rw [hc] at h; exact (h : False).elim
    | true =>
      have h : cw_G K C Q ls m (bif cw_c1 v then cw_go (pc + 1) ls s0 m else none) := h
      rw [hc] at h
      intro H locs LS J
      refine lv_pop hx hb hd (cw_tv1 h0 hc) ?_
      exact hgo _ _ _ _ (h : K (pc + 1) ls s0 m) H locs LS (cw_J_st J (fun z hz => J.2.2.2.1 z (List.mem_cons_of_mem _ hz)))
theorem si_dup (X : cw_X p s mm args meth c E L m0 nL u) (hd : decode (cw_by u) pc = .ok (.dup, 1)) (hgo : ∀ pc ls st m, K pc ls st m → cw_WW p l e R s mm args below meth c Z E L m0 mE nL pc ls st m) (h : cw_G K C Q ls m (cw_stp (pc, 1, .dup, a, b, x, y) ls st m)) : cw_WW p l e R s mm args below meth c Z E L m0 mE nL pc ls st m := by
  obtain ⟨hx, hb, -, -, -, hown, hts, hKV, hKH, h0, -⟩ := X
  rcases st with _ | ⟨v, s0⟩
  · exact (h : False).elim
  · cases hc : cw_c1 v with
    | false =>
      have h : cw_G K C Q ls m (bif cw_c1 v then cw_go (pc + 1) ls (v :: v :: s0) m else none) := h
      rw [hc] at h; exact (h : False).elim
    | true =>
      have h : cw_G K C Q ls m (bif cw_c1 v then cw_go (pc + 1) ls (v :: v :: s0) m else none) := h
      rw [hc] at h
      intro H locs LS J
      refine lv_dup hx hb hd (cw_tv1 h0 hc) ?_
      exact hgo _ _ _ _ (h : K (pc + 1) ls (v :: v :: s0) m) H locs LS (cw_J_st J (cw_all1 (J.2.2.2.1 _ List.mem_cons_self) J.2.2.2.1))
theorem si_dup2 (X : cw_X p s mm args meth c E L m0 nL u) (hd : decode (cw_by u) pc = .ok (.dup2, 1)) (hgo : ∀ pc ls st m, K pc ls st m → cw_WW p l e R s mm args below meth c Z E L m0 mE nL pc ls st m) (h : cw_G K C Q ls m (cw_stp (pc, 1, .dup2, a, b, x, y) ls st m)) : cw_WW p l e R s mm args below meth c Z E L m0 mE nL pc ls st m := by
  obtain ⟨hx, hb, -, -, -, hown, hts, hKV, hKH, h0, -⟩ := X
  rcases st with _ | ⟨v, s0⟩
  · exact (h : False).elim
  · rcases hv : v with _ | z | z | z
    · subst hv; rcases s0 with _ | ⟨w, s1⟩ <;> exact (h : False).elim
    · subst hv
      rcases s0 with _ | ⟨w, s1⟩
      · exact (h : False).elim
      · have h : cw_G K C Q ls m (bif cw_c1 (vi z) && cw_c1 w then cw_go (pc + 1) ls (vi z :: w :: vi z :: w :: s1) m else none) := h
        cases hc : cw_c1 w with
        | false => rw [hc] at h; exact (h : False).elim
        | true =>
          rw [hc] at h
          intro H locs LS J
          refine lv_dup2_11 hx hb hd rfl (cw_tv1 h0 hc) ?_
          exact hgo _ _ _ _ (h : K (pc + 1) ls (vi z :: w :: vi z :: w :: s1) m) H locs LS (cw_J_st J (cw_all1 (J.2.2.2.1 _ List.mem_cons_self) (cw_all1 (J.2.2.2.1 _ (List.mem_cons_of_mem _ List.mem_cons_self)) J.2.2.2.1)))
    · subst hv
      intro H locs LS J
      refine lv_dup2_2 hx hb hd rfl ?_
      exact hgo _ _ _ _ (h : K (pc + 1) ls (vl z :: vl z :: s0) m) H locs LS (cw_J_st J (cw_all1 (J.2.2.2.1 _ List.mem_cons_self) J.2.2.2.1))
    · subst hv
      rcases s0 with _ | ⟨w, s1⟩
      · exact (h : False).elim
      · have h : cw_G K C Q ls m (bif cw_c1 (vr z) && cw_c1 w then cw_go (pc + 1) ls (vr z :: w :: vr z :: w :: s1) m else none) := h
        cases hc : cw_c1 w with
        | false => rw [hc] at h; exact (h : False).elim
        | true =>
          rw [hc] at h
          intro H locs LS J
          refine lv_dup2_11 hx hb hd (cw_tv1 h0 (v := vr z) rfl) (cw_tv1 h0 hc) ?_
          exact hgo _ _ _ _ (h : K (pc + 1) ls (vr z :: w :: vr z :: w :: s1) m) H locs LS (cw_J_st J (cw_all1 (J.2.2.2.1 _ List.mem_cons_self) (cw_all1 (J.2.2.2.1 _ (List.mem_cons_of_mem _ List.mem_cons_self)) J.2.2.2.1)))
theorem si_goto (X : cw_X p s mm args meth c E L m0 nL u) {off : Int} (hd : decode (cw_by u) pc = .ok (.goto off, 3)) (ht : (pc : Int) + off = (a : Int)) (hgo : ∀ pc ls st m, K pc ls st m → cw_WW p l e R s mm args below meth c Z E L m0 mE nL pc ls st m) (h : cw_G K C Q ls m (cw_stp (pc, 3, .goto off, a, b, x, y) ls st m)) : cw_WW p l e R s mm args below meth c Z E L m0 mE nL pc ls st m := by
  obtain ⟨hx, hb, -, -, -, hown, hts, hKV, hKH, h0, -⟩ := X
  intro H locs LS J
  refine lv_goto hx hb hd ht ?_
  exact hgo _ _ _ _ (h : K a ls st m) H locs LS J
theorem si_if_eq (X : cw_X p s mm args meth c E L m0 nL u) {off : Int} (hd : decode (cw_by u) pc = .ok (.ifCond .eq off, 3)) (ht : (pc : Int) + off = (a : Int)) (hgo : ∀ pc ls st m, K pc ls st m → cw_WW p l e R s mm args below meth c Z E L m0 mE nL pc ls st m) (h : cw_G K C Q ls m (cw_stp (pc, 3, .ifCond .eq off, a, b, x, y) ls st m)) : cw_WW p l e R s mm args below meth c Z E L m0 mE nL pc ls st m := by
  obtain ⟨hx, hb, -, -, -, hown, hts, hKV, hKH, h0, -⟩ := X
  obtain ⟨v, s0, rfl, h⟩ := cw_p1_inv h
  have h : (v = 0 → K a ls s0 m) ∧ (¬ (v = 0) → K (pc + 3) ls s0 m) := h
  intro H locs LS J
  have hv := J.2.2.2.1 _ List.mem_cons_self
  have J' := cw_J_st J (fun z hz => J.2.2.2.1 z (List.mem_cons_of_mem _ hz))
  exact lv_if_eq hx hb hd ht (fun q => hgo _ _ _ _ (h.1 ((cw_eq hv cw_rz).mp q)) H locs LS J') (fun q => hgo _ _ _ _ (h.2 (fun z => q ((cw_eq hv cw_rz).mpr z))) H locs LS J')
theorem si_if_ne (X : cw_X p s mm args meth c E L m0 nL u) {off : Int} (hd : decode (cw_by u) pc = .ok (.ifCond .ne off, 3)) (ht : (pc : Int) + off = (a : Int)) (hgo : ∀ pc ls st m, K pc ls st m → cw_WW p l e R s mm args below meth c Z E L m0 mE nL pc ls st m) (h : cw_G K C Q ls m (cw_stp (pc, 3, .ifCond .ne off, a, b, x, y) ls st m)) : cw_WW p l e R s mm args below meth c Z E L m0 mE nL pc ls st m := by
  obtain ⟨hx, hb, -, -, -, hown, hts, hKV, hKH, h0, -⟩ := X
  obtain ⟨v, s0, rfl, h⟩ := cw_p1_inv h
  have h : (v ≠ 0 → K a ls s0 m) ∧ (¬ (v ≠ 0) → K (pc + 3) ls s0 m) := h
  intro H locs LS J
  have hv := J.2.2.2.1 _ List.mem_cons_self
  have J' := cw_J_st J (fun z hz => J.2.2.2.1 z (List.mem_cons_of_mem _ hz))
  exact lv_if_ne hx hb hd ht (fun q => hgo _ _ _ _ (h.1 ((not_congr (cw_eq hv cw_rz)).mp q)) H locs LS J') (fun q => hgo _ _ _ _ (h.2 (fun z => z ((cw_eq hv cw_rz).mp q))) H locs LS J')
theorem si_if_lt (X : cw_X p s mm args meth c E L m0 nL u) {off : Int} (hd : decode (cw_by u) pc = .ok (.ifCond .lt off, 3)) (ht : (pc : Int) + off = (a : Int)) (hgo : ∀ pc ls st m, K pc ls st m → cw_WW p l e R s mm args below meth c Z E L m0 mE nL pc ls st m) (h : cw_G K C Q ls m (cw_stp (pc, 3, .ifCond .lt off, a, b, x, y) ls st m)) : cw_WW p l e R s mm args below meth c Z E L m0 mE nL pc ls st m := by
  obtain ⟨hx, hb, -, -, -, hown, hts, hKV, hKH, h0, -⟩ := X
  obtain ⟨v, s0, rfl, h⟩ := cw_p1_inv h
  have h : (v < 0 → K a ls s0 m) ∧ (¬ (v < 0) → K (pc + 3) ls s0 m) := h
  intro H locs LS J
  have hv := J.2.2.2.1 _ List.mem_cons_self
  have J' := cw_J_st J (fun z hz => J.2.2.2.1 z (List.mem_cons_of_mem _ hz))
  exact lv_if_lt hx hb hd ht (fun q => hgo _ _ _ _ (h.1 ((cw_lt hv cw_rz).mp q)) H locs LS J') (fun q => hgo _ _ _ _ (h.2 (fun z => q ((cw_lt hv cw_rz).mpr z))) H locs LS J')
theorem si_if_ge (X : cw_X p s mm args meth c E L m0 nL u) {off : Int} (hd : decode (cw_by u) pc = .ok (.ifCond .ge off, 3)) (ht : (pc : Int) + off = (a : Int)) (hgo : ∀ pc ls st m, K pc ls st m → cw_WW p l e R s mm args below meth c Z E L m0 mE nL pc ls st m) (h : cw_G K C Q ls m (cw_stp (pc, 3, .ifCond .ge off, a, b, x, y) ls st m)) : cw_WW p l e R s mm args below meth c Z E L m0 mE nL pc ls st m := by
  obtain ⟨hx, hb, -, -, -, hown, hts, hKV, hKH, h0, -⟩ := X
  obtain ⟨v, s0, rfl, h⟩ := cw_p1_inv h
  have h : (0 ≤ v → K a ls s0 m) ∧ (¬ (0 ≤ v) → K (pc + 3) ls s0 m) := h
  intro H locs LS J
  have hv := J.2.2.2.1 _ List.mem_cons_self
  have J' := cw_J_st J (fun z hz => J.2.2.2.1 z (List.mem_cons_of_mem _ hz))
  exact lv_if_ge hx hb hd ht (fun q => hgo _ _ _ _ (h.1 ((cw_le cw_rz hv).mp q)) H locs LS J') (fun q => hgo _ _ _ _ (h.2 (fun z => q ((cw_le cw_rz hv).mpr z))) H locs LS J')
theorem si_if_gt (X : cw_X p s mm args meth c E L m0 nL u) {off : Int} (hd : decode (cw_by u) pc = .ok (.ifCond .gt off, 3)) (ht : (pc : Int) + off = (a : Int)) (hgo : ∀ pc ls st m, K pc ls st m → cw_WW p l e R s mm args below meth c Z E L m0 mE nL pc ls st m) (h : cw_G K C Q ls m (cw_stp (pc, 3, .ifCond .gt off, a, b, x, y) ls st m)) : cw_WW p l e R s mm args below meth c Z E L m0 mE nL pc ls st m := by
  obtain ⟨hx, hb, -, -, -, hown, hts, hKV, hKH, h0, -⟩ := X
  obtain ⟨v, s0, rfl, h⟩ := cw_p1_inv h
  have h : (0 < v → K a ls s0 m) ∧ (¬ (0 < v) → K (pc + 3) ls s0 m) := h
  intro H locs LS J
  have hv := J.2.2.2.1 _ List.mem_cons_self
  have J' := cw_J_st J (fun z hz => J.2.2.2.1 z (List.mem_cons_of_mem _ hz))
  exact lv_if_gt hx hb hd ht (fun q => hgo _ _ _ _ (h.1 ((cw_lt cw_rz hv).mp q)) H locs LS J') (fun q => hgo _ _ _ _ (h.2 (fun z => q ((cw_lt cw_rz hv).mpr z))) H locs LS J')
theorem si_if_le (X : cw_X p s mm args meth c E L m0 nL u) {off : Int} (hd : decode (cw_by u) pc = .ok (.ifCond .le off, 3)) (ht : (pc : Int) + off = (a : Int)) (hgo : ∀ pc ls st m, K pc ls st m → cw_WW p l e R s mm args below meth c Z E L m0 mE nL pc ls st m) (h : cw_G K C Q ls m (cw_stp (pc, 3, .ifCond .le off, a, b, x, y) ls st m)) : cw_WW p l e R s mm args below meth c Z E L m0 mE nL pc ls st m := by
  obtain ⟨hx, hb, -, -, -, hown, hts, hKV, hKH, h0, -⟩ := X
  obtain ⟨v, s0, rfl, h⟩ := cw_p1_inv h
  have h : (v ≤ 0 → K a ls s0 m) ∧ (¬ (v ≤ 0) → K (pc + 3) ls s0 m) := h
  intro H locs LS J
  have hv := J.2.2.2.1 _ List.mem_cons_self
  have J' := cw_J_st J (fun z hz => J.2.2.2.1 z (List.mem_cons_of_mem _ hz))
  exact lv_if_le hx hb hd ht (fun q => hgo _ _ _ _ (h.1 ((cw_le hv cw_rz).mp q)) H locs LS J') (fun q => hgo _ _ _ _ (h.2 (fun z => q ((cw_le hv cw_rz).mpr z))) H locs LS J')
theorem si_icmp_eq (X : cw_X p s mm args meth c E L m0 nL u) {off : Int} (hd : decode (cw_by u) pc = .ok (.if_icmp .eq off, 3)) (ht : (pc : Int) + off = (a : Int)) (hgo : ∀ pc ls st m, K pc ls st m → cw_WW p l e R s mm args below meth c Z E L m0 mE nL pc ls st m) (h : cw_G K C Q ls m (cw_stp (pc, 3, .if_icmp .eq off, a, b, x, y) ls st m)) : cw_WW p l e R s mm args below meth c Z E L m0 mE nL pc ls st m := by
  obtain ⟨hx, hb, -, -, -, hown, hts, hKV, hKH, h0, -⟩ := X
  obtain ⟨w, v, s0, rfl, h⟩ := cw_p2_inv h
  have h : (w = v → K a ls s0 m) ∧ (¬ (w = v) → K (pc + 3) ls s0 m) := h
  intro H locs LS J
  have hv := J.2.2.2.1 _ List.mem_cons_self
  have hw := J.2.2.2.1 _ (List.mem_cons_of_mem _ List.mem_cons_self)
  have J' := cw_J_st J (fun z hz => J.2.2.2.1 z (List.mem_cons_of_mem _ (List.mem_cons_of_mem _ hz)))
  exact lv_icmp_eq hx hb hd ht (fun q => hgo _ _ _ _ (h.1 ((cw_eq hw hv).mp q)) H locs LS J') (fun q => hgo _ _ _ _ (h.2 (fun z => q ((cw_eq hw hv).mpr z))) H locs LS J')
theorem si_icmp_ne (X : cw_X p s mm args meth c E L m0 nL u) {off : Int} (hd : decode (cw_by u) pc = .ok (.if_icmp .ne off, 3)) (ht : (pc : Int) + off = (a : Int)) (hgo : ∀ pc ls st m, K pc ls st m → cw_WW p l e R s mm args below meth c Z E L m0 mE nL pc ls st m) (h : cw_G K C Q ls m (cw_stp (pc, 3, .if_icmp .ne off, a, b, x, y) ls st m)) : cw_WW p l e R s mm args below meth c Z E L m0 mE nL pc ls st m := by
  obtain ⟨hx, hb, -, -, -, hown, hts, hKV, hKH, h0, -⟩ := X
  obtain ⟨w, v, s0, rfl, h⟩ := cw_p2_inv h
  have h : (w ≠ v → K a ls s0 m) ∧ (¬ (w ≠ v) → K (pc + 3) ls s0 m) := h
  intro H locs LS J
  have hv := J.2.2.2.1 _ List.mem_cons_self
  have hw := J.2.2.2.1 _ (List.mem_cons_of_mem _ List.mem_cons_self)
  have J' := cw_J_st J (fun z hz => J.2.2.2.1 z (List.mem_cons_of_mem _ (List.mem_cons_of_mem _ hz)))
  exact lv_icmp_ne hx hb hd ht (fun q => hgo _ _ _ _ (h.1 ((not_congr (cw_eq hw hv)).mp q)) H locs LS J') (fun q => hgo _ _ _ _ (h.2 (fun z => z ((cw_eq hw hv).mp q))) H locs LS J')
theorem si_icmp_lt (X : cw_X p s mm args meth c E L m0 nL u) {off : Int} (hd : decode (cw_by u) pc = .ok (.if_icmp .lt off, 3)) (ht : (pc : Int) + off = (a : Int)) (hgo : ∀ pc ls st m, K pc ls st m → cw_WW p l e R s mm args below meth c Z E L m0 mE nL pc ls st m) (h : cw_G K C Q ls m (cw_stp (pc, 3, .if_icmp .lt off, a, b, x, y) ls st m)) : cw_WW p l e R s mm args below meth c Z E L m0 mE nL pc ls st m := by
  obtain ⟨hx, hb, -, -, -, hown, hts, hKV, hKH, h0, -⟩ := X
  obtain ⟨w, v, s0, rfl, h⟩ := cw_p2_inv h
  have h : (w < v → K a ls s0 m) ∧ (¬ (w < v) → K (pc + 3) ls s0 m) := h
  intro H locs LS J
  have hv := J.2.2.2.1 _ List.mem_cons_self
  have hw := J.2.2.2.1 _ (List.mem_cons_of_mem _ List.mem_cons_self)
  have J' := cw_J_st J (fun z hz => J.2.2.2.1 z (List.mem_cons_of_mem _ (List.mem_cons_of_mem _ hz)))
  exact lv_icmp_lt hx hb hd ht (fun q => hgo _ _ _ _ (h.1 ((cw_lt hw hv).mp q)) H locs LS J') (fun q => hgo _ _ _ _ (h.2 (fun z => q ((cw_lt hw hv).mpr z))) H locs LS J')
theorem si_icmp_ge (X : cw_X p s mm args meth c E L m0 nL u) {off : Int} (hd : decode (cw_by u) pc = .ok (.if_icmp .ge off, 3)) (ht : (pc : Int) + off = (a : Int)) (hgo : ∀ pc ls st m, K pc ls st m → cw_WW p l e R s mm args below meth c Z E L m0 mE nL pc ls st m) (h : cw_G K C Q ls m (cw_stp (pc, 3, .if_icmp .ge off, a, b, x, y) ls st m)) : cw_WW p l e R s mm args below meth c Z E L m0 mE nL pc ls st m := by
  obtain ⟨hx, hb, -, -, -, hown, hts, hKV, hKH, h0, -⟩ := X
  obtain ⟨w, v, s0, rfl, h⟩ := cw_p2_inv h
  have h : (v ≤ w → K a ls s0 m) ∧ (¬ (v ≤ w) → K (pc + 3) ls s0 m) := h
  intro H locs LS J
  have hv := J.2.2.2.1 _ List.mem_cons_self
  have hw := J.2.2.2.1 _ (List.mem_cons_of_mem _ List.mem_cons_self)
  have J' := cw_J_st J (fun z hz => J.2.2.2.1 z (List.mem_cons_of_mem _ (List.mem_cons_of_mem _ hz)))
  exact lv_icmp_ge hx hb hd ht (fun q => hgo _ _ _ _ (h.1 ((cw_le hv hw).mp q)) H locs LS J') (fun q => hgo _ _ _ _ (h.2 (fun z => q ((cw_le hv hw).mpr z))) H locs LS J')
theorem si_icmp_gt (X : cw_X p s mm args meth c E L m0 nL u) {off : Int} (hd : decode (cw_by u) pc = .ok (.if_icmp .gt off, 3)) (ht : (pc : Int) + off = (a : Int)) (hgo : ∀ pc ls st m, K pc ls st m → cw_WW p l e R s mm args below meth c Z E L m0 mE nL pc ls st m) (h : cw_G K C Q ls m (cw_stp (pc, 3, .if_icmp .gt off, a, b, x, y) ls st m)) : cw_WW p l e R s mm args below meth c Z E L m0 mE nL pc ls st m := by
  obtain ⟨hx, hb, -, -, -, hown, hts, hKV, hKH, h0, -⟩ := X
  obtain ⟨w, v, s0, rfl, h⟩ := cw_p2_inv h
  have h : (v < w → K a ls s0 m) ∧ (¬ (v < w) → K (pc + 3) ls s0 m) := h
  intro H locs LS J
  have hv := J.2.2.2.1 _ List.mem_cons_self
  have hw := J.2.2.2.1 _ (List.mem_cons_of_mem _ List.mem_cons_self)
  have J' := cw_J_st J (fun z hz => J.2.2.2.1 z (List.mem_cons_of_mem _ (List.mem_cons_of_mem _ hz)))
  exact lv_icmp_gt hx hb hd ht (fun q => hgo _ _ _ _ (h.1 ((cw_lt hv hw).mp q)) H locs LS J') (fun q => hgo _ _ _ _ (h.2 (fun z => q ((cw_lt hv hw).mpr z))) H locs LS J')
theorem si_icmp_le (X : cw_X p s mm args meth c E L m0 nL u) {off : Int} (hd : decode (cw_by u) pc = .ok (.if_icmp .le off, 3)) (ht : (pc : Int) + off = (a : Int)) (hgo : ∀ pc ls st m, K pc ls st m → cw_WW p l e R s mm args below meth c Z E L m0 mE nL pc ls st m) (h : cw_G K C Q ls m (cw_stp (pc, 3, .if_icmp .le off, a, b, x, y) ls st m)) : cw_WW p l e R s mm args below meth c Z E L m0 mE nL pc ls st m := by
  obtain ⟨hx, hb, -, -, -, hown, hts, hKV, hKH, h0, -⟩ := X
  obtain ⟨w, v, s0, rfl, h⟩ := cw_p2_inv h
  have h : (w ≤ v → K a ls s0 m) ∧ (¬ (w ≤ v) → K (pc + 3) ls s0 m) := h
  intro H locs LS J
  have hv := J.2.2.2.1 _ List.mem_cons_self
  have hw := J.2.2.2.1 _ (List.mem_cons_of_mem _ List.mem_cons_self)
  have J' := cw_J_st J (fun z hz => J.2.2.2.1 z (List.mem_cons_of_mem _ (List.mem_cons_of_mem _ hz)))
  exact lv_icmp_le hx hb hd ht (fun q => hgo _ _ _ _ (h.1 ((cw_le hw hv).mp q)) H locs LS J') (fun q => hgo _ _ _ _ (h.2 (fun z => q ((cw_le hw hv).mpr z))) H locs LS J')
end CWX
