/-! Every step of the abstract machine, carried over to the JVM. -/
theorem cw_ins_r {x : Int} (h : cw_ins32 x = true) : cw_r x := by
  unfold cw_ins32 at h
  simp only [Bool.and_eq_true, decide_eq_true_eq] at h
  exact h
theorem cw_nonest : ∀ e ∈ cw_LN, cw_kn e.2.2.2 ≠ 1 := by decide +kernel
theorem cw_nmk : ∀ e ∈ cw_LN, ∀ a : Nat, a < 269 → cw_kn a = 1 → cw_nm e.2.2.2 ≠ cw_nm a := by decide +kernel
theorem cw_nonest2 {a : Nat} (h1 : 1 ≤ a) (h2 : a < 269) (hk : cw_kn a = 1) : ∀ (o : String) (idx : Nat) (y : MethodName), Cond.methodLinkNest o idx y "CommaWill" ∈ cw_NW → y = cw_nm a → False := by
  intro o idx y h hy
  unfold cw_NW at h
  rcases List.mem_append.mp h with h | h
  · obtain ⟨e, -, he⟩ := List.mem_map.mp h
    cases he
  · rcases List.mem_append.mp h with h | h
    · obtain ⟨e, hm, he⟩ := List.mem_map.mp h
      injection he with q1 q2 q3 q4
      exact cw_nmk e hm a h2 hk (q3.trans hy)
    · have := List.mem_singleton.mp h
      cases this
theorem cw_initv : ∀ a : Nat, a < 269 → 1 ≤ a → cw_kn a = 2 → cw_rtt a = none := by decide +kernel
theorem cw_ft4_l {o idx : Nat} {x y : Int} (h : cw_ft4 o idx x y = true) : (1 ≤ x ∧ x ≤ 11) ∧ (0 ≤ y ∧ y.toNat < cw_N (x.toNat - 1)) ∧ ((Cond.fieldLink (cw_cn o) idx (cw_TT (x.toNat - 1) y.toNat).1 (cw_TT (x.toNat - 1) y.toNat).2.1 (cw_TT (x.toNat - 1) y.toNat).2.2.1 ∈ cw_T) ∨ (Cond.fieldLinkNest (cw_cn o) idx (cw_TT (x.toNat - 1) y.toNat).1 (cw_TT (x.toNat - 1) y.toNat).2.1 (cw_TT (x.toNat - 1) y.toNat).2.2.1 "CommaWill" ∈ cw_NW ∧ cw_LG.any (fun e => e.2 == (o, idx, x.toNat - 1, y.toNat)) = true)) := by
  unfold cw_ft4 at h
  simp only [Bool.and_eq_true, Bool.or_eq_true, decide_eq_true_eq] at h
  obtain ⟨⟨⟨⟨h1, h2⟩, h3⟩, h4⟩, h5⟩ := h
  refine ⟨⟨h1, h2⟩, ⟨h3, h4⟩, ?_⟩
  rcases h5 with h5 | h5
  · obtain ⟨z, hz, h⟩ := List.any_eq_true.mp h5
    have h : z.2 = (o, idx, x.toNat - 1, y.toNat) := by simpa using h
    have g := cw_LF_ok z hz
    rw [h] at g
    exact Or.inl (cw_ix g rfl)
  · refine Or.inr ⟨?_, h5⟩
    obtain ⟨z, hz, h⟩ := List.any_eq_true.mp h5
    have h : z.2 = (o, idx, x.toNat - 1, y.toNat) := by simpa using h
    refine List.mem_append_left _ (List.mem_map.mpr ⟨z, hz, ?_⟩)
    rw [h]
section CWM
variable {p : Program} {l : Launch} {e : Env} {R : Room} {s : State} {mm : MethodId} {args : Array Value} {below : List Frame} {meth : Method} {c : Code} {Z : State → Prop} {E : cw_E} {L : Nat} {m0 mE mF : cw_M} {nL u : Nat}
variable {K : Nat → List cw_V → List cw_V → cw_M → Prop} {C : Nat → List cw_V → cw_M → (Option cw_V → cw_M → Prop) → Prop} {Q : Option cw_V → cw_M → Prop} {ls st : List cw_V} {m : cw_M} {pc d : Nat}
theorem cw_sim (X : cw_X p s mm args meth c E L m0 nL u) (hR : (mF (-1) 0 - mE (-1) 0).toNat ≤ R.cells ∧ (mF (-1) 1 - mE (-1) 1).toNat ≤ R.slots) (hfr : d + 1 ≤ R.frames ∧ 64 * (d + 1) ≤ R.locals) (hch : cw_CH l E L m0 d C) (hmono : ∀ pc ls st m, K pc ls st m → cw_lm m mF) (hgo : ∀ pc ls st m, K pc ls st m → cw_WW p l e R s mm args below meth c Z E L m0 mE nL pc ls st m) (hret : ∀ r, Q r m → cw_rs u pc st r → cw_WW p l e R s mm args below meth c Z E L m0 mE nL pc ls st m)
    {q : cw_A} (hok : cw_okb u q = true) (hpc : q.1 = pc) (h : cw_G K C Q ls m (cw_stp q ls st m)) : cw_WW p l e R s mm args below meth c Z E L m0 mE nL pc ls st m := by
  obtain ⟨pc', len, i, a, b, x, y⟩ := q
  have hpc : pc' = pc := hpc
  subst hpc
  obtain ⟨hd, hok⟩ := cw_okb_inv hok
  have hfr1 : 1 ≤ R.frames ∧ 64 ≤ R.locals := ⟨by omega, by omega⟩
  have hmn : ∀ pc ls st m, K pc ls st m → 32 ≤ m (-1) 0 → m (-1) 0 ≤ mF (-1) 0 ∧ m (-1) 1 ≤ mF (-1) 1 := fun pc ls st m h h32 => ⟨(hmono _ _ _ _ h h32).2.1, (hmono _ _ _ _ h h32).2.2.1⟩
  cases i with

  | aconst_null =>
    have hk : (len == 1) = true := hok
    simp only [Bool.and_eq_true, Bool.or_eq_true, beq_iff_eq, decide_eq_true_eq] at hk
    obtain rfl := hk
    exact si_null X hd hgo h
  | iconst n =>
    have hk : (len == 1 && x == n && cw_ins32 x) = true := hok
    simp only [Bool.and_eq_true, Bool.or_eq_true, beq_iff_eq, decide_eq_true_eq] at hk
    obtain ⟨⟨rfl, rfl⟩, hr⟩ := hk
    exact si_iconst X hd (cw_ins_r hr) hgo h
  | bipush n =>
    have hk : (len == 2 && x == n && decide (-128 ≤ x) && decide (x < 128)) = true := hok
    simp only [Bool.and_eq_true, Bool.or_eq_true, beq_iff_eq, decide_eq_true_eq] at hk
    obtain ⟨⟨⟨rfl, rfl⟩, h1⟩, h2⟩ := hk
    exact si_bipush X hd ⟨h1, h2⟩ hgo h
  | sipush n =>
    have hk : (len == 3 && x == n && decide (-32768 ≤ x) && decide (x < 32768)) = true := hok
    simp only [Bool.and_eq_true, Bool.or_eq_true, beq_iff_eq, decide_eq_true_eq] at hk
    obtain ⟨⟨⟨rfl, rfl⟩, h1⟩, h2⟩ := hk
    exact si_sipush X hd ⟨h1, h2⟩ hgo h
  | lconst n =>
    have hk : (len == 1 && x == ((n : Nat) : Int)) = true := hok
    simp only [Bool.and_eq_true, Bool.or_eq_true, beq_iff_eq, decide_eq_true_eq] at hk
    obtain ⟨rfl, rfl⟩ := hk
    exact si_lconst X hd hgo h
  | ldc n =>
    have hk : (len == 2 && ((a == 0 && cw_ins32 x && cw_LI.any (fun e => e.2 == (cw_oc u, n, x))) || (a == 2 && cw_LS0.any (fun e => e.2.1 == cw_oc u && e.2.2.1 == n && cw_sc e.2.2.2 == x && decide (e.2.2.2 < 11))))) = true := hok
    rw [Bool.and_eq_true, Bool.or_eq_true, beq_iff_eq] at hk
    obtain ⟨rfl, hk⟩ := hk
    rcases hk with hk | hk
    · simp only [Bool.and_eq_true, beq_iff_eq] at hk
      obtain ⟨⟨rfl, h1⟩, h2⟩ := hk
      obtain ⟨z, hz, g⟩ := List.any_eq_true.mp h2
      have g : z.2 = (cw_oc u, n, x) := by simpa using g
      have f := cw_LI_ok z hz
      rw [g] at f
      exact si_ldc X hd (cw_ins_r h1) (cw_ix f rfl) hgo h
    · simp only [Bool.and_eq_true, beq_iff_eq] at hk
      obtain ⟨rfl, h2⟩ := hk
      obtain ⟨⟨w, z1, z2, z3⟩, hz, g⟩ := List.any_eq_true.mp h2
      simp only [Bool.and_eq_true, beq_iff_eq, decide_eq_true_eq] at g
      obtain ⟨⟨⟨rfl, rfl⟩, g3⟩, g4⟩ := g
      exact si_ldcS X g4 g3.symm hz hd hgo h
  | ldc_w n =>
    have hk : (len == 3 && a == 0 && cw_ins32 x && cw_LI.any (fun e => e.2 == (cw_oc u, n, x))) = true := hok
    rw [Bool.and_eq_true, Bool.and_eq_true, Bool.and_eq_true, beq_iff_eq, beq_iff_eq] at hk
    obtain ⟨⟨⟨rfl, rfl⟩, h1⟩, h2⟩ := hk
    obtain ⟨z, hz, g⟩ := List.any_eq_true.mp h2
    have g : z.2 = (cw_oc u, n, x) := by simpa using g
    have f := cw_LI_ok z hz
    rw [g] at f
    exact si_ldcw X hd (cw_ins_r h1) (cw_ix f rfl) hgo h
  | ldc2_w n =>
    have hk : (len == 3 && cw_LL.any (fun e => e.2 == (cw_oc u, n, x)) && decide (-9223372036854775808 ≤ x) && decide (x < 9223372036854775808)) = true := hok
    rw [Bool.and_eq_true, Bool.and_eq_true, Bool.and_eq_true, beq_iff_eq, decide_eq_true_eq, decide_eq_true_eq] at hk
    obtain ⟨⟨⟨rfl, h2⟩, h3⟩, h4⟩ := hk
    obtain ⟨z, hz, g⟩ := List.any_eq_true.mp h2
    have g : z.2 = (cw_oc u, n, x) := by simpa using g
    have f := cw_LL_ok z hz
    rw [g] at f
    exact si_ldc2 X hd ⟨h3, h4⟩ (cw_ix f rfl) hgo h
  | getstatic n =>
    have hk : (len == 3 && ((cw_oc u == 12 && n == 38 && a == 0 && x == 1) || (cw_oc u == 12 && n == 1053 && a == 3) || (cw_oc u == 0 && n == 32 && a == 2 && x == 2097640) || (cw_oc u == 9 && n == 165 && a == 2 && x == 3146024))) = true := hok
    simp only [Bool.and_eq_true, Bool.or_eq_true, beq_iff_eq] at hk
    obtain ⟨rfl, hk⟩ := hk
    refine si_gets X hd ?_ hgo h
    rcases hk with ((⟨⟨⟨h1, h2⟩, h3⟩, h4⟩ | ⟨⟨h1, h2⟩, h3⟩) | ⟨⟨⟨h1, h2⟩, h3⟩, h4⟩) | ⟨⟨⟨h1, h2⟩, h3⟩, h4⟩
    · exact Or.inl ⟨h1, h2, h3, h4⟩
    · exact Or.inr (Or.inl ⟨h1, h2, h3⟩)
    · exact Or.inr (Or.inr (Or.inl ⟨h1, h2, h3, h4⟩))
    · exact Or.inr (Or.inr (Or.inr ⟨h1, h2, h3, h4⟩))
  | iload n =>
    have hk : (len == 2 && a == n) = true := hok
    simp only [Bool.and_eq_true, Bool.or_eq_true, beq_iff_eq, decide_eq_true_eq] at hk
    obtain ⟨rfl, rfl⟩ := hk
    exact si_iload X hd hgo h
  | iload_n n =>
    have hk : (len == 1 && a == n) = true := hok
    simp only [Bool.and_eq_true, Bool.or_eq_true, beq_iff_eq, decide_eq_true_eq] at hk
    obtain ⟨rfl, rfl⟩ := hk
    exact si_iload_n X hd hgo h
  | lload n =>
    have hk : (len == 2 && a == n) = true := hok
    simp only [Bool.and_eq_true, Bool.or_eq_true, beq_iff_eq, decide_eq_true_eq] at hk
    obtain ⟨rfl, rfl⟩ := hk
    exact si_lload X hd hgo h
  | lload_n n =>
    have hk : (len == 1 && a == n) = true := hok
    simp only [Bool.and_eq_true, Bool.or_eq_true, beq_iff_eq, decide_eq_true_eq] at hk
    obtain ⟨rfl, rfl⟩ := hk
    exact si_lload_n X hd hgo h
  | aload n =>
    have hk : (len == 2 && a == n) = true := hok
    simp only [Bool.and_eq_true, Bool.or_eq_true, beq_iff_eq, decide_eq_true_eq] at hk
    obtain ⟨rfl, rfl⟩ := hk
    exact si_aload X hd hgo h
  | aload_n n =>
    have hk : (len == 1 && a == n) = true := hok
    simp only [Bool.and_eq_true, Bool.or_eq_true, beq_iff_eq, decide_eq_true_eq] at hk
    obtain ⟨rfl, rfl⟩ := hk
    exact si_aload_n X hd hgo h
  | istore n =>
    have hk : (len == 2 && a == n) = true := hok
    simp only [Bool.and_eq_true, Bool.or_eq_true, beq_iff_eq, decide_eq_true_eq] at hk
    obtain ⟨rfl, rfl⟩ := hk
    exact si_istore X hd hgo h
  | istore_n n =>
    have hk : (len == 1 && a == n) = true := hok
    simp only [Bool.and_eq_true, Bool.or_eq_true, beq_iff_eq, decide_eq_true_eq] at hk
    obtain ⟨rfl, rfl⟩ := hk
    exact si_istore_n X hd hgo h
  | lstore n =>
    have hk : (len == 2 && a == n) = true := hok
    simp only [Bool.and_eq_true, Bool.or_eq_true, beq_iff_eq, decide_eq_true_eq] at hk
    obtain ⟨rfl, rfl⟩ := hk
    exact si_lstore X hd hgo h
  | lstore_n n =>
    have hk : (len == 1 && a == n) = true := hok
    simp only [Bool.and_eq_true, Bool.or_eq_true, beq_iff_eq, decide_eq_true_eq] at hk
    obtain ⟨rfl, rfl⟩ := hk
    exact si_lstore_n X hd hgo h
  | astore n =>
    have hk : (len == 2 && a == n) = true := hok
    simp only [Bool.and_eq_true, Bool.or_eq_true, beq_iff_eq, decide_eq_true_eq] at hk
    obtain ⟨rfl, rfl⟩ := hk
    exact si_astore X hd hgo h
  | astore_n n =>
    have hk : (len == 1 && a == n) = true := hok
    simp only [Bool.and_eq_true, Bool.or_eq_true, beq_iff_eq, decide_eq_true_eq] at hk
    obtain ⟨rfl, rfl⟩ := hk
    exact si_astore_n X hd hgo h
  | iinc n k =>
    have hk : (len == 3 && a == n && x == k) = true := hok
    simp only [Bool.and_eq_true, Bool.or_eq_true, beq_iff_eq, decide_eq_true_eq] at hk
    obtain ⟨⟨rfl, rfl⟩, rfl⟩ := hk
    exact si_iinc X hd hgo h
  | goto off =>
    have hk : (len == 3 && ((pc' : Int) + off == (a : Int))) = true := hok
    simp only [Bool.and_eq_true, Bool.or_eq_true, beq_iff_eq, decide_eq_true_eq] at hk
    obtain ⟨rfl, ht⟩ := hk
    exact si_goto X hd ht hgo h
  | ifCond cc off =>
    have hk : (len == 3 && ((pc' : Int) + off == (a : Int))) = true := hok
    simp only [Bool.and_eq_true, Bool.or_eq_true, beq_iff_eq, decide_eq_true_eq] at hk
    obtain ⟨rfl, ht⟩ := hk
    cases cc with
    | eq => exact si_if_eq X hd ht hgo h
    | ne => exact si_if_ne X hd ht hgo h
    | lt => exact si_if_lt X hd ht hgo h
    | ge => exact si_if_ge X hd ht hgo h
    | gt => exact si_if_gt X hd ht hgo h
    | le => exact si_if_le X hd ht hgo h
  | if_icmp cc off =>
    have hk : (len == 3 && ((pc' : Int) + off == (a : Int))) = true := hok
    simp only [Bool.and_eq_true, Bool.or_eq_true, beq_iff_eq, decide_eq_true_eq] at hk
    obtain ⟨rfl, ht⟩ := hk
    cases cc with
    | eq => exact si_icmp_eq X hd ht hgo h
    | ne => exact si_icmp_ne X hd ht hgo h
    | lt => exact si_icmp_lt X hd ht hgo h
    | ge => exact si_icmp_ge X hd ht hgo h
    | gt => exact si_icmp_gt X hd ht hgo h
    | le => exact si_icmp_le X hd ht hgo h
  | ifnull off =>
    have hk : (len == 3 && ((pc' : Int) + off == (a : Int))) = true := hok
    simp only [Bool.and_eq_true, Bool.or_eq_true, beq_iff_eq, decide_eq_true_eq] at hk
    obtain ⟨rfl, ht⟩ := hk
    exact si_ifnull X hd ht hgo h
  | ifnonnull off =>
    have hk : (len == 3 && ((pc' : Int) + off == (a : Int))) = true := hok
    simp only [Bool.and_eq_true, Bool.or_eq_true, beq_iff_eq, decide_eq_true_eq] at hk
    obtain ⟨rfl, ht⟩ := hk
    exact si_ifnonnull X hd ht hgo h
  | tableswitch d0 lo hi os =>
    have hk : (decide (0 ≤ (pc' : Int) + d0) && (os.size == (hi - lo + 1).toNat) && decide (lo ≤ hi) && os.toList.all (fun z => decide (0 ≤ (pc' : Int) + z))) = true := hok
    simp only [Bool.and_eq_true, beq_iff_eq, decide_eq_true_eq, List.all_eq_true] at hk
    obtain ⟨⟨⟨h1, h2⟩, h3⟩, h4⟩ := hk
    exact si_tsw X hd h1 h2 h4 hgo h
  | lookupswitch d0 ps =>
    have hk : (decide (0 ≤ (pc' : Int) + d0) && (ps.toList.zip (ps.toList.drop 1)).all (fun (a, next) => decide (a.1 < next.1)) && ps.toList.all (fun z => decide (0 ≤ (pc' : Int) + z.2))) = true := hok
    rw [Bool.and_eq_true, Bool.and_eq_true, decide_eq_true_eq] at hk
    obtain ⟨⟨h1, h2⟩, h3⟩ := hk
    exact si_lsw X hd h1 h2 (fun z hz => by simpa using List.all_eq_true.mp h3 z hz) hgo h
  | getfield n =>
    have hk : (len == 3 && ((x == 12 && cw_oc u == 12 && ((n == 9 && y == 0 && a == 2) || (n == 15 && y == 1 && a == 0))) || (cw_ft4 (cw_oc u) n x y && (cw_fk (cw_ty (x.toNat - 1) y.toNat)).1 == a))) = true := hok
    rw [Bool.and_eq_true, Bool.or_eq_true, beq_iff_eq] at hk
    obtain ⟨rfl, hk⟩ := hk
    rcases hk with hk | hk
    · simp only [Bool.and_eq_true, Bool.or_eq_true, beq_iff_eq] at hk
      obtain ⟨⟨rfl, h2⟩, h3⟩ := hk
      refine si_getfS X h2 hd ?_ hgo h
      rcases h3 with ⟨⟨q1, q2⟩, q3⟩ | ⟨⟨q1, q2⟩, q3⟩
      · exact Or.inl ⟨q1, q2, q3⟩
      · exact Or.inr ⟨q1, q2, q3⟩
    · rw [Bool.and_eq_true, beq_iff_eq] at hk
      obtain ⟨hk, ha⟩ := hk
      obtain ⟨h1, h2, h3⟩ := cw_ft4_l hk
      have ex : x = ((x.toNat - 1 : Nat) : Int) + 1 := by omega
      have ey : y = ((y.toNat : Nat) : Int) := by omega
      generalize x.toNat - 1 = t at *
      generalize y.toNat = k at *
      subst ex ey
      exact si_getf X (by omega) h2.2 hd ha (by rcases h3 with z | z; exact Or.inl z; exact Or.inr z.1) hgo h
  | putfield n =>
    have hk : (len == 3 && cw_ft4 (cw_oc u) n x y && cw_fk (cw_ty (x.toNat - 1) y.toNat) == (a, b) && (!(cw_TT (x.toNat - 1) y.toNat).2.2.2 || (cw_kn u == 2 && cw_oc u == x.toNat - 1 && !(cw_LG.any (fun e => e.2 == (cw_oc u, n, x.toNat - 1, y.toNat)))))) = true := hok
    rw [Bool.and_eq_true, Bool.and_eq_true, Bool.and_eq_true, beq_iff_eq, beq_iff_eq, Bool.or_eq_true, Bool.and_eq_true, Bool.and_eq_true, beq_iff_eq, beq_iff_eq, Bool.not_eq_true', Bool.not_eq_true'] at hk
    obtain ⟨⟨⟨rfl, h1⟩, h2⟩, h3⟩ := hk
    obtain ⟨g1, g2, g3⟩ := cw_ft4_l h1
    have ex : x = ((x.toNat - 1 : Nat) : Int) + 1 := by omega
    have ey : y = ((y.toNat : Nat) : Int) := by omega
    generalize x.toNat - 1 = t at *
    generalize y.toNat = k at *
    subst ex ey
    refine si_putf X (by omega) g2.2 h2 hd ?_ hgo h
    rcases g3 with z | ⟨z, z2⟩
    · refine Or.inl ⟨z, ?_⟩
      rcases h3 with w | w
      · exact Or.inl w
      · exact Or.inr w.1
    · refine Or.inr ⟨z, ?_⟩
      rcases h3 with w | w
      · exact w
      · rw [z2] at w; cases w.2
  | new n =>
    have hk : (len == 3 && decide (1 ≤ x) && decide (x ≤ 11) && y == ((cw_N (x.toNat - 1) : Nat) : Int) && cw_LC0.any (fun e => e.2 == (cw_oc u, n, x.toNat - 1))) = true := hok
    rw [Bool.and_eq_true, Bool.and_eq_true, Bool.and_eq_true, Bool.and_eq_true, beq_iff_eq, beq_iff_eq, decide_eq_true_eq, decide_eq_true_eq] at hk
    obtain ⟨⟨⟨⟨rfl, h1⟩, h2⟩, rfl⟩, h3⟩ := hk
    obtain ⟨z, hz, g⟩ := List.any_eq_true.mp h3
    have g : z.2 = (cw_oc u, n, x.toNat - 1) := by simpa using g
    have f := cw_LC0_ok z hz
    rw [g] at f
    have ex : x = ((x.toNat - 1 : Nat) : Int) + 1 := by omega
    generalize x.toNat - 1 = t at *
    subst ex
    exact si_new (t := t) X (by omega) hd (cw_ix f rfl) hR hmn hgo h
  | newarray t =>
    cases t with
    | int =>
      have hk : (len == 2 && x == 40) = true := hok
      simp only [Bool.and_eq_true, beq_iff_eq] at hk
      obtain ⟨rfl, rfl⟩ := hk
      exact si_newa (t := 0) X (by decide) rfl hd hR hmn hgo h
    | long =>
      have hk : (len == 2 && x == 41) = true := hok
      simp only [Bool.and_eq_true, beq_iff_eq] at hk
      obtain ⟨rfl, rfl⟩ := hk
      exact si_newa (t := 1) X (by decide) rfl hd hR hmn hgo h
    | boolean =>
      have hk : (len == 2 && x == 42) = true := hok
      simp only [Bool.and_eq_true, beq_iff_eq] at hk
      obtain ⟨rfl, rfl⟩ := hk
      exact si_newa (t := 2) X (by decide) rfl hd hR hmn hgo h
    | byte =>
      have hk : (len == 2 && x == 43) = true := hok
      simp only [Bool.and_eq_true, beq_iff_eq] at hk
      obtain ⟨rfl, rfl⟩ := hk
      exact si_newa (t := 3) X (by decide) rfl hd hR hmn hgo h
    | _ =>
      have hk : (len == 2 && false) = true := hok
      simp at hk
  | anewarray n =>
    have hk : (len == 3 && ((x == 44 && cw_LC0.any (fun e => e.2 == (cw_oc u, n, 7))) || (x == 45 && cw_LC0.any (fun e => e.2 == (cw_oc u, n, 8))))) = true := hok
    rw [Bool.and_eq_true, Bool.or_eq_true, Bool.and_eq_true, Bool.and_eq_true, beq_iff_eq, beq_iff_eq, beq_iff_eq] at hk
    obtain ⟨rfl, ⟨rfl, h3⟩ | ⟨rfl, h3⟩⟩ := hk
    · obtain ⟨z, hz, g⟩ := List.any_eq_true.mp h3
      have g : z.2 = (cw_oc u, n, 7) := by simpa using g
      have f := cw_LC0_ok z hz
      rw [g] at f
      exact si_anew (t := 4) (tc := 7) X (Or.inl ⟨rfl, rfl⟩) hd (cw_ix f rfl) hR hmn hgo h
    · obtain ⟨z, hz, g⟩ := List.any_eq_true.mp h3
      have g : z.2 = (cw_oc u, n, 8) := by simpa using g
      have f := cw_LC0_ok z hz
      rw [g] at f
      exact si_anew (t := 5) (tc := 8) X (Or.inr ⟨rfl, rfl⟩) hd (cw_ix f rfl) hR hmn hgo h
  | ireturn =>
    have hk : (len == 1 && cw_rk a (cw_rtt u)) = true := hok
    rw [Bool.and_eq_true, beq_iff_eq] at hk
    obtain ⟨rfl, hk⟩ := hk
    rcases st with _ | ⟨_ | z | z | z, _ | ⟨w, s0⟩⟩ <;> first
      | exact (h : False).elim
      | (match a, hk, h with
         | 0, hk, h => exact hret _ h (Or.inr (Or.inl ⟨0, z, hd, hk, trivial, rfl, rfl⟩))
         | a + 1, hk, h => exact hret _ h.2 (Or.inr (Or.inl ⟨a + 1, z, hd, hk, h.1, rfl, rfl⟩)))
  | lreturn =>
    have hk : (len == 1 && cw_rtt u == some .long) = true := hok
    rw [Bool.and_eq_true, beq_iff_eq, beq_iff_eq] at hk
    obtain ⟨rfl, hk⟩ := hk
    rcases st with _ | ⟨_ | z | z | z, _ | ⟨w, s0⟩⟩ <;> first
      | exact (h : False).elim
      | exact hret _ h (Or.inr (Or.inr (Or.inl ⟨z, hd, hk, rfl, rfl⟩)))
  | areturn =>
    have hk : (len == 1 && (match (generalizing := false) cw_rtt u with | some (.object _) => true | some (.array _) => true | _ => false)) = true := hok
    rw [Bool.and_eq_true, beq_iff_eq] at hk
    obtain ⟨rfl, hk⟩ := hk
    have hty : ∃ ty, cw_rtt u = some ty ∧ ((∃ n, ty = .object n) ∨ ∃ t, ty = .array t) := by
      cases hr : cw_rtt u with
      | none => rw [hr] at hk; cases hk
      | some ty =>
        rw [hr] at hk
        cases ty with
        | object n => exact ⟨_, rfl, Or.inl ⟨n, rfl⟩⟩
        | array n => exact ⟨_, rfl, Or.inr ⟨n, rfl⟩⟩
        | _ => cases hk
    obtain ⟨ty, t1, t2⟩ := hty
    rcases st with _ | ⟨_ | z | z | z, _ | ⟨w, s0⟩⟩ <;> first
      | exact (h : False).elim
      | exact hret _ h (Or.inr (Or.inr (Or.inr ⟨z, ty, hd, t1, t2, rfl, rfl⟩)))
  | return_ =>
    have hk : (len == 1 && (cw_rtt u).isNone) = true := hok
    rw [Bool.and_eq_true, beq_iff_eq] at hk
    obtain ⟨rfl, hk⟩ := hk
    rcases st with _ | ⟨z, s0⟩
    · exact hret _ h (Or.inl ⟨hd, by simpa using hk, rfl, rfl⟩)
    · exact (h : False).elim
  | invokespecial n =>
    have hk : (len == 3 && ((a == 0 && cw_LO.any (fun e => e.2 == (cw_oc u, n))) || (cw_okm (cw_oc u) n 2 a b y && decide (1 ≤ x) && decide (x ≤ 11) && (cw_oc a == x.toNat - 1)))) = true := hok
    rw [Bool.and_eq_true, Bool.or_eq_true, beq_iff_eq] at hk
    obtain ⟨rfl, hk⟩ := hk
    rcases hk with hk | hk
    · rw [Bool.and_eq_true, beq_iff_eq] at hk
      obtain ⟨rfl, h3⟩ := hk
      obtain ⟨z, hz, g⟩ := List.any_eq_true.mp h3
      have g : z.2 = (cw_oc u, n) := by simpa using g
      have f := cw_LO_ok z hz
      rw [g] at f
      exact si_objinit X hd (cw_ix f rfl) hfr1 hgo h
    · rw [Bool.and_eq_true, Bool.and_eq_true, Bool.and_eq_true, beq_iff_eq, decide_eq_true_eq, decide_eq_true_eq] at hk
      obtain ⟨⟨⟨h1, h2⟩, h3⟩, h4⟩ := hk
      have hr := cw_okm_r h1
      exact si_invi X hd h1 ⟨⟨h2, h3⟩, h4⟩ hR hfr hch hmono hgo h (cw_initv a hr.2 hr.1 (cw_okm_l h1).1.1)
  | invokevirtual n =>
    have hk : (len == 3 && cw_okm (cw_oc u) n 1 a b y && ((x == 12 && cw_oc a == 12) || (decide (1 ≤ x) && decide (x ≤ 11) && (cw_oc a == x.toNat - 1)))) = true := hok
    rw [Bool.and_eq_true, Bool.and_eq_true, Bool.or_eq_true, beq_iff_eq] at hk
    obtain ⟨⟨rfl, h1⟩, h2⟩ := hk
    simp only [Bool.and_eq_true, beq_iff_eq, decide_eq_true_eq] at h2
    have hr := cw_okm_r h1
    exact si_invv X hd h1 h2 (cw_nonest2 hr.1 hr.2 (cw_okm_l h1).1.1) hR hfr hch hmono hgo h
  | invokestatic n =>
    have hk : (len == 3 && ((a == 0 && cw_LA.any (fun e => e.2 == (cw_oc u, n))) || cw_okm (cw_oc u) n 0 a b y)) = true := hok
    rw [Bool.and_eq_true, Bool.or_eq_true, beq_iff_eq] at hk
    obtain ⟨rfl, hk⟩ := hk
    rcases hk with hk | hk
    · rw [Bool.and_eq_true, beq_iff_eq] at hk
      obtain ⟨rfl, h3⟩ := hk
      obtain ⟨z, hz, g⟩ := List.any_eq_true.mp h3
      have g : z.2 = (cw_oc u, n) := by simpa using g
      have f := cw_LA_ok z hz
      rw [g] at f
      exact si_acopy X hd (cw_ix f rfl) hfr1 hgo h
    · exact si_invs X hd hk hR hfr hch hmono hgo h
  | iadd =>
    have hk : (len == 1) = true := hok
    simp only [Bool.and_eq_true, Bool.or_eq_true, beq_iff_eq, decide_eq_true_eq] at hk
    obtain rfl := hk
    exact si_iadd X hd hgo h
  | isub =>
    have hk : (len == 1) = true := hok
    simp only [Bool.and_eq_true, Bool.or_eq_true, beq_iff_eq, decide_eq_true_eq] at hk
    obtain rfl := hk
    exact si_isub X hd hgo h
  | imul =>
    have hk : (len == 1) = true := hok
    simp only [Bool.and_eq_true, Bool.or_eq_true, beq_iff_eq, decide_eq_true_eq] at hk
    obtain rfl := hk
    exact si_imul X hd hgo h
  | idiv =>
    have hk : (len == 1) = true := hok
    simp only [Bool.and_eq_true, Bool.or_eq_true, beq_iff_eq, decide_eq_true_eq] at hk
    obtain rfl := hk
    exact si_idiv X hd hgo h
  | irem =>
    have hk : (len == 1) = true := hok
    simp only [Bool.and_eq_true, Bool.or_eq_true, beq_iff_eq, decide_eq_true_eq] at hk
    obtain rfl := hk
    exact si_irem X hd hgo h
  | ineg =>
    have hk : (len == 1) = true := hok
    simp only [Bool.and_eq_true, Bool.or_eq_true, beq_iff_eq, decide_eq_true_eq] at hk
    obtain rfl := hk
    exact si_ineg X hd hgo h
  | iand =>
    have hk : (len == 1) = true := hok
    simp only [Bool.and_eq_true, Bool.or_eq_true, beq_iff_eq, decide_eq_true_eq] at hk
    obtain rfl := hk
    exact si_iand X hd hgo h
  | ior =>
    have hk : (len == 1) = true := hok
    simp only [Bool.and_eq_true, Bool.or_eq_true, beq_iff_eq, decide_eq_true_eq] at hk
    obtain rfl := hk
    exact si_ior X hd hgo h
  | ixor =>
    have hk : (len == 1) = true := hok
    simp only [Bool.and_eq_true, Bool.or_eq_true, beq_iff_eq, decide_eq_true_eq] at hk
    obtain rfl := hk
    exact si_ixor X hd hgo h
  | ishl =>
    have hk : (len == 1) = true := hok
    simp only [Bool.and_eq_true, Bool.or_eq_true, beq_iff_eq, decide_eq_true_eq] at hk
    obtain rfl := hk
    exact si_ishl X hd hgo h
  | ishr =>
    have hk : (len == 1) = true := hok
    simp only [Bool.and_eq_true, Bool.or_eq_true, beq_iff_eq, decide_eq_true_eq] at hk
    obtain rfl := hk
    exact si_ishr X hd hgo h
  | iushr =>
    have hk : (len == 1) = true := hok
    simp only [Bool.and_eq_true, Bool.or_eq_true, beq_iff_eq, decide_eq_true_eq] at hk
    obtain rfl := hk
    exact si_iushr X hd hgo h
  | ladd =>
    have hk : (len == 1) = true := hok
    simp only [Bool.and_eq_true, Bool.or_eq_true, beq_iff_eq, decide_eq_true_eq] at hk
    obtain rfl := hk
    exact si_ladd X hd hgo h
  | lsub =>
    have hk : (len == 1) = true := hok
    simp only [Bool.and_eq_true, Bool.or_eq_true, beq_iff_eq, decide_eq_true_eq] at hk
    obtain rfl := hk
    exact si_lsub X hd hgo h
  | lmul =>
    have hk : (len == 1) = true := hok
    simp only [Bool.and_eq_true, Bool.or_eq_true, beq_iff_eq, decide_eq_true_eq] at hk
    obtain rfl := hk
    exact si_lmul X hd hgo h
  | ldiv =>
    have hk : (len == 1) = true := hok
    simp only [Bool.and_eq_true, Bool.or_eq_true, beq_iff_eq, decide_eq_true_eq] at hk
    obtain rfl := hk
    exact si_ldiv X hd hgo h
  | lrem =>
    have hk : (len == 1) = true := hok
    simp only [Bool.and_eq_true, Bool.or_eq_true, beq_iff_eq, decide_eq_true_eq] at hk
    obtain rfl := hk
    exact si_lrem X hd hgo h
  | land =>
    have hk : (len == 1) = true := hok
    simp only [Bool.and_eq_true, Bool.or_eq_true, beq_iff_eq, decide_eq_true_eq] at hk
    obtain rfl := hk
    exact si_land X hd hgo h
  | lor =>
    have hk : (len == 1) = true := hok
    simp only [Bool.and_eq_true, Bool.or_eq_true, beq_iff_eq, decide_eq_true_eq] at hk
    obtain rfl := hk
    exact si_lor X hd hgo h
  | lxor =>
    have hk : (len == 1) = true := hok
    simp only [Bool.and_eq_true, Bool.or_eq_true, beq_iff_eq, decide_eq_true_eq] at hk
    obtain rfl := hk
    exact si_lxor X hd hgo h
  | lshl =>
    have hk : (len == 1) = true := hok
    simp only [Bool.and_eq_true, Bool.or_eq_true, beq_iff_eq, decide_eq_true_eq] at hk
    obtain rfl := hk
    exact si_lshl X hd hgo h
  | lshr =>
    have hk : (len == 1) = true := hok
    simp only [Bool.and_eq_true, Bool.or_eq_true, beq_iff_eq, decide_eq_true_eq] at hk
    obtain rfl := hk
    exact si_lshr X hd hgo h
  | lcmp =>
    have hk : (len == 1) = true := hok
    simp only [Bool.and_eq_true, Bool.or_eq_true, beq_iff_eq, decide_eq_true_eq] at hk
    obtain rfl := hk
    exact si_lcmp X hd hgo h
  | i2l =>
    have hk : (len == 1) = true := hok
    simp only [Bool.and_eq_true, Bool.or_eq_true, beq_iff_eq, decide_eq_true_eq] at hk
    obtain rfl := hk
    exact si_i2l X hd hgo h
  | l2i =>
    have hk : (len == 1) = true := hok
    simp only [Bool.and_eq_true, Bool.or_eq_true, beq_iff_eq, decide_eq_true_eq] at hk
    obtain rfl := hk
    exact si_l2i X hd hgo h
  | i2b =>
    have hk : (len == 1) = true := hok
    simp only [Bool.and_eq_true, Bool.or_eq_true, beq_iff_eq, decide_eq_true_eq] at hk
    obtain rfl := hk
    exact si_i2b X hd hgo h
  | i2c =>
    have hk : (len == 1) = true := hok
    simp only [Bool.and_eq_true, Bool.or_eq_true, beq_iff_eq, decide_eq_true_eq] at hk
    obtain rfl := hk
    exact si_i2c X hd hgo h
  | pop =>
    have hk : (len == 1) = true := hok
    simp only [Bool.and_eq_true, Bool.or_eq_true, beq_iff_eq, decide_eq_true_eq] at hk
    obtain rfl := hk
    exact si_pop X hd hgo h
  | dup =>
    have hk : (len == 1) = true := hok
    simp only [Bool.and_eq_true, Bool.or_eq_true, beq_iff_eq, decide_eq_true_eq] at hk
    obtain rfl := hk
    exact si_dup X hd hgo h
  | dup2 =>
    have hk : (len == 1) = true := hok
    simp only [Bool.and_eq_true, Bool.or_eq_true, beq_iff_eq, decide_eq_true_eq] at hk
    obtain rfl := hk
    exact si_dup2 X hd hgo h
  | iaload =>
    have hk : (len == 1) = true := hok
    simp only [Bool.and_eq_true, Bool.or_eq_true, beq_iff_eq, decide_eq_true_eq] at hk
    obtain rfl := hk
    exact si_iaload X hd hgo h
  | laload =>
    have hk : (len == 1) = true := hok
    simp only [Bool.and_eq_true, Bool.or_eq_true, beq_iff_eq, decide_eq_true_eq] at hk
    obtain rfl := hk
    exact si_laload X hd hgo h
  | baload =>
    have hk : (len == 1) = true := hok
    simp only [Bool.and_eq_true, Bool.or_eq_true, beq_iff_eq, decide_eq_true_eq] at hk
    obtain rfl := hk
    exact si_baload X hd hgo h
  | aaload =>
    have hk : (len == 1) = true := hok
    simp only [Bool.and_eq_true, Bool.or_eq_true, beq_iff_eq, decide_eq_true_eq] at hk
    obtain rfl := hk
    exact si_aaload X hd hgo h
  | iastore =>
    have hk : (len == 1) = true := hok
    simp only [Bool.and_eq_true, Bool.or_eq_true, beq_iff_eq, decide_eq_true_eq] at hk
    obtain rfl := hk
    exact si_iastore X hd hgo h
  | lastore =>
    have hk : (len == 1) = true := hok
    simp only [Bool.and_eq_true, Bool.or_eq_true, beq_iff_eq, decide_eq_true_eq] at hk
    obtain rfl := hk
    exact si_lastore X hd hgo h
  | bastore =>
    have hk : (len == 1) = true := hok
    simp only [Bool.and_eq_true, Bool.or_eq_true, beq_iff_eq, decide_eq_true_eq] at hk
    obtain rfl := hk
    exact si_bastore X hd hgo h
  | aastore =>
    have hk : (len == 1) = true := hok
    simp only [Bool.and_eq_true, Bool.or_eq_true, beq_iff_eq, decide_eq_true_eq] at hk
    obtain rfl := hk
    exact si_aastore X hd hgo h
  | arraylength =>
    have hk : (len == 1) = true := hok
    simp only [Bool.and_eq_true, Bool.or_eq_true, beq_iff_eq, decide_eq_true_eq] at hk
    obtain rfl := hk
    exact si_alen X hd hgo h
  | _ => exact (h : False).elim
end CWM
