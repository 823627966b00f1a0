/-! One step of the abstract machine, carried over to the JVM: new cells, constants, switches, copies. -/
theorem cw_N56 : ∀ t : Nat, t < 11 → cw_N t < 56 := by decide +kernel
section CWP
variable {K : Nat → List cw_V → List cw_V → cw_M → Prop} {C : Nat → List cw_V → cw_M → (Option cw_V → cw_M → Prop) → Prop} {Q : Option cw_V → cw_M → Prop} {ls st : List cw_V} {m : cw_M}
theorem cw_pn_inv : ∀ {n : Nat} {l as : List cw_V} {k : List cw_V → List cw_V → Option cw_O}, cw_G K C Q ls m (cw_pn n l as k) → ∃ bs s0, l = bs.reverse ++ s0 ∧ bs.length = n ∧ cw_G K C Q ls m (k (bs ++ as) s0)
  | 0, l, as, k, h => ⟨[], l, rfl, rfl, h⟩
  | n + 1, [], as, k, h => (h : False).elim
  | n + 1, v :: l, as, k, h => by
    obtain ⟨bs, s0, h1, h2, h3⟩ := cw_pn_inv (n := n) (l := l) (as := v :: as) h
    refine ⟨bs ++ [v], s0, by rw [h1]; simp, by simp [h2], by simpa using h3⟩
theorem cw_bif_inv {b : Bool} {o : Option cw_O} (h : cw_G K C Q ls m (bif b then o else none)) : b = true ∧ cw_G K C Q ls m o := by
  cases b
  · exact (h : False).elim
  · exact ⟨rfl, h⟩
end CWP
section CWN
variable {p : Program} {l : Launch} {e : Env} {R : Room} {s : State} {mm : MethodId} {args : Array Value} {below : List Frame} {meth : Method} {c : Code} {Z : State → Prop} {E : cw_E} {L : Nat} {m0 mE mF : cw_M} {nL u : Nat}
variable {K : Nat → List cw_V → List cw_V → cw_M → Prop} {C : Nat → List cw_V → cw_M → (Option cw_V → cw_M → Prop) → Prop} {Q : Option cw_V → cw_M → Prop} {ls st : List cw_V} {m : cw_M} {pc len a b : Nat} {x y : Int}
/-- behind a new cell -/
theorem cw_new_go {H H1 : Heap} {locs : List Loc} {LS : Array Slot} {t n : Int} {N k : Nat} {s0 : List cw_V} (J : cw_J E L m0 s nL mE ls st m H locs LS) (hgo : ∀ pc ls st m, K pc ls st m → cw_WW p l e R s mm args below meth c Z E L m0 mE nL pc ls st m) (h : K k ls (vr (cw_nc m t n) :: s0) (cw_new m t n)) (hs : ∀ v ∈ s0, cw_kk L m v) (ht : 0 ≤ t ∧ t < 64) (ht0 : t ≠ 0) (hn : 0 ≤ n ∧ n < 16384) (hN : n = (N : Int)) (z1 : H1.size = H.size + 1) (o1 : ∀ q, q < H.size → H1[q]? = H[q]?)
    (hcel : (∃ t' : Nat, t' < 11 ∧ t = (t' : Int) + 1 ∧ t_OB H.size (E.1.1 t') (cw_N t') (E.1.2 t') H1 (fun k => cw_tv E (cw_kv (cw_fld t' k) 0))) ∨ (∃ t' : Nat, t' < 6 ∧ t = (t' : Int) + 40 ∧ H1[H.size]? = some (arrV (E.2.1 t') n.toNat (fun _ => cw_tv E (cw_kv (cw_ak t') 0))))) :
    W p l e R s mm args below meth c H1 locs ((m (-1) 0 - mE (-1) 0).toNat + 1) ((m (-1) 1 - mE (-1) 1).toNat + N) Z (F0 mm k LS (.ref H.size :: s0.map (cw_tv E))) := by
  have h32 := J.1.1.1
  obtain ⟨g1, g2, g3, g4⟩ := cw_nc_ok h32 ht hn
  obtain ⟨r1, r2, r3⟩ := cw_rep_new J.1 ht hn z1 o1 hcel
  have hE := J.2.2.2.2.2
  have kk := hgo _ _ _ _ h H1 locs LS ⟨r1, ⟨Nat.le_trans J.2.1.1 (by omega), fun q h1 h2 => (o1 q (Nat.lt_of_lt_of_le h1 J.2.1.1)).trans (J.2.1.2.1 q h1 h2), J.2.1.2.2⟩, J.2.2.1, cw_all1 (Or.inr (Or.inl r2)) (fun v hv => cw_new_kk h32 ht hn (hs v hv)), fun i v hv => cw_new_kk h32 ht hn (J.2.2.2.2.1 i v hv), by rw [cw_new_0 g4]; omega, by rw [cw_new_1 g4]; omega⟩
  have kk : W p l e R s mm args below meth c H1 locs (cw_new m t n (-1) 0 - mE (-1) 0).toNat (cw_new m t n (-1) 1 - mE (-1) 1).toNat Z (F0 mm k LS (cw_rv E (cw_nc m t n) :: s0.map (cw_tv E))) := kk
  rw [cw_kr_nz (L := L) (m := m) (by rw [g1]; exact ht0), r3, cw_new_0 g4, cw_new_1 g4, show (m (-1) 0 + 1 - mE (-1) 0).toNat = (m (-1) 0 - mE (-1) 0).toNat + 1 by omega, show (m (-1) 1 + n - mE (-1) 1).toNat = (m (-1) 1 - mE (-1) 1).toNat + N by omega] at kk
  exact kk
theorem si_new (X : cw_X p s mm args meth c E L m0 nL u) {n t : Nat} (ht : t < 11) (hd : decode (cw_by u) pc = .ok (.new n, 3)) (hl : Cond.classLink (cw_cn (cw_oc u)) n (cw_cn t) ∈ cw_T) (hR : (mF (-1) 0 - mE (-1) 0).toNat ≤ R.cells ∧ (mF (-1) 1 - mE (-1) 1).toNat ≤ R.slots) (hmono : ∀ pc ls st m, K pc ls st m → 32 ≤ m (-1) 0 → m (-1) 0 ≤ mF (-1) 0 ∧ m (-1) 1 ≤ mF (-1) 1)
    (hgo : ∀ pc ls st m, K pc ls st m → cw_WW p l e R s mm args below meth c Z E L m0 mE nL pc ls st m) (h : cw_G K C Q ls m (cw_stp (pc, 3, .new n, a, b, (t : Int) + 1, ((cw_N t : Nat) : Int)) ls st m)) : cw_WW p l e R s mm args below meth c Z E L m0 mE nL pc ls st m := by
  obtain ⟨hx, hb, hml, hrt, hlk, hown, hts, hKV, hKH, h0, hin, hbs⟩ := X
  obtain ⟨-, h⟩ := h
  intro H locs LS J
  have hN := cw_N56 t ht
  obtain ⟨g1, g2, g3, g4⟩ := cw_nc_ok (t := (t : Int) + 1) (n := ((cw_N t : Nat) : Int)) J.1.1.1 (by omega) (by omega)
  have h32 := J.1.1.1
  have hm := hmono _ _ _ _ h (by rw [cw_new_0 g4]; omega)
  rw [cw_new_0 g4, cw_new_1 g4] at hm
  have hE := J.2.2.2.2.2
  have hKn := hKV.1.1 t _ (cw_clsat ht)
  refine W.newcK hx hb hown (hts _ hl) (hts _ (cw_inst ht).1) (hts _ (cw_inst ht).2) rfl hd (by have := hR.1; omega) (by have := hR.2; omega) hKn.2.1 rfl (fun H1 kC hkC e1 z1 o1 => ?_)
  exact cw_new_go J hgo h J.2.2.2.1 (by omega) (by omega) (by omega) rfl z1 o1 (Or.inl ⟨t, ht, rfl, (u_born (cw_ty t) hts (cw_uws ht) hKn hkC e1 (cw_tyok ht)).to (fun k hk => cw_dv (cw_fk3 t ht k hk))⟩)
theorem si_newa (X : cw_X p s mm args meth c E L m0 nL u) {ty : ArrayType} {t : Nat} (ht : t < 4) (hty : newarray.typeOf ty = cw_aty t) (hd : decode (cw_by u) pc = .ok (.newarray ty, 2)) (hR : (mF (-1) 0 - mE (-1) 0).toNat ≤ R.cells ∧ (mF (-1) 1 - mE (-1) 1).toNat ≤ R.slots) (hmono : ∀ pc ls st m, K pc ls st m → 32 ≤ m (-1) 0 → m (-1) 0 ≤ mF (-1) 0 ∧ m (-1) 1 ≤ mF (-1) 1)
    (hgo : ∀ pc ls st m, K pc ls st m → cw_WW p l e R s mm args below meth c Z E L m0 mE nL pc ls st m) (h : cw_G K C Q ls m (cw_stp (pc, 2, .newarray ty, a, b, (t : Int) + 40, y) ls st m)) : cw_WW p l e R s mm args below meth c Z E L m0 mE nL pc ls st m := by
  obtain ⟨hx, hb, hml, hrt, hlk, hown, hts, hKV, hKH, h0, hin, hbs⟩ := X
  obtain ⟨n, s0, rfl, h⟩ := cw_p1_inv h
  obtain ⟨⟨hn, -⟩, h⟩ := h
  intro H locs LS J
  obtain ⟨g1, g2, g3, g4⟩ := cw_nc_ok (t := (t : Int) + 40) (n := n) J.1.1.1 (by omega) (by omega)
  have h32 := J.1.1.1
  have hm := hmono _ _ _ _ h (by rw [cw_new_0 g4]; omega)
  rw [cw_new_0 g4, cw_new_1 g4] at hm
  have hE := J.2.2.2.2.2
  have hcl : (Int32.ofInt n).toNatClampNeg = n.toNat := cw_clp hn.1 (by omega)
  have hfacts : Cond.arrayClass (cw_aty t) ∈ cw_T ∧ componentBytes (cw_aty t) ≤ 8 ∧ defaultValue (cw_aty t) = cw_tv E (cw_kv (cw_ak t) 0) ∧ s.vm.findClass ("[" ++ (cw_aty t).toString) = some (E.2.1 t) := by
    match t, ht with
    | 0, _ => exact ⟨cw_ac_int, by decide, rfl, (hKV.1.2 0 _ rfl).2⟩
    | 1, _ => exact ⟨cw_ac_long, by decide, rfl, (hKV.1.2 1 _ rfl).2⟩
    | 2, _ => exact ⟨cw_ac_boolean, by decide, rfl, (hKV.1.2 2 _ rfl).2⟩
    | 3, _ => exact ⟨cw_ac_byte, by decide, rfl, (hKV.1.2 3 _ rfl).2⟩
  obtain ⟨f1, f2, f3, f4⟩ := hfacts
  refine va_newaK hx hb (by rw [hty]; exact hts _ f1) rfl hd (n := Int32.ofInt n) (N := n.toNat) rfl (cw_nn hn.1 (by omega)) hcl (by rw [hty]; calc _ ≤ n.toNat * 8 := Nat.mul_le_mul_left _ f2
    _ ≤ 536870912 := by omega) (by have := hR.1; omega) (by have := hR.2; omega) rfl (fun H1 cA e1 z1 o1 hAr hNm => ?_)
  rw [hty] at e1 hNm
  have hcA : cA = E.2.1 t := Option.some.inj (hNm.symm.trans f4)
  subst hcA
  rw [f3] at e1
  exact cw_new_go J hgo h (fun v hv => J.2.2.2.1 v (List.mem_cons_of_mem _ hv)) (by omega) (by omega) hn (by omega) z1 o1 (Or.inr ⟨t, by omega, rfl, e1⟩)
theorem si_anew (X : cw_X p s mm args meth c E L m0 nL u) {n t tc : Nat} (ht : t = 4 ∧ tc = 7 ∨ t = 5 ∧ tc = 8) (hd : decode (cw_by u) pc = .ok (.anewarray n, 3)) (hl : Cond.classLink (cw_cn (cw_oc u)) n (cw_cn tc) ∈ cw_T) (hR : (mF (-1) 0 - mE (-1) 0).toNat ≤ R.cells ∧ (mF (-1) 1 - mE (-1) 1).toNat ≤ R.slots) (hmono : ∀ pc ls st m, K pc ls st m → 32 ≤ m (-1) 0 → m (-1) 0 ≤ mF (-1) 0 ∧ m (-1) 1 ≤ mF (-1) 1)
    (hgo : ∀ pc ls st m, K pc ls st m → cw_WW p l e R s mm args below meth c Z E L m0 mE nL pc ls st m) (h : cw_G K C Q ls m (cw_stp (pc, 3, .anewarray n, a, b, (t : Int) + 40, y) ls st m)) : cw_WW p l e R s mm args below meth c Z E L m0 mE nL pc ls st m := by
  obtain ⟨hx, hb, hml, hrt, hlk, hown, hts, hKV, hKH, h0, hin, hbs⟩ := X
  obtain ⟨n', s0, rfl, h⟩ := cw_p1_inv h
  obtain ⟨⟨hn, -⟩, h⟩ := h
  intro H locs LS J
  obtain ⟨g1, g2, g3, g4⟩ := cw_nc_ok (t := (t : Int) + 40) (n := n') J.1.1.1 (by omega) (by omega)
  have h32 := J.1.1.1
  have hm := hmono _ _ _ _ h (by rw [cw_new_0 g4]; omega)
  rw [cw_new_0 g4, cw_new_1 g4] at hm
  have hE := J.2.2.2.2.2
  have hcl : (Int32.ofInt n').toNatClampNeg = n'.toNat := cw_clp hn.1 (by omega)
  have hfacts : va_AO (cw_cn tc) s ∧ cw_tv E (cw_kv (cw_ak t) 0) = .null ∧ s.vm.findClass ("[" ++ (FieldType.object (cw_cn tc)).toString) = some (E.2.1 t) := by
    rcases ht with ⟨rfl, rfl⟩ | ⟨rfl, rfl⟩
    · obtain ⟨kA, comp, a1, a2, a3, a4⟩ := (hKV.1.2 4 _ rfl).2
      exact ⟨hKV.2.2.1, rfl, a4⟩
    · obtain ⟨kA, comp, a1, a2, a3, a4⟩ := (hKV.1.2 5 _ rfl).2
      exact ⟨hKV.2.2.2.1, rfl, a4⟩
  obtain ⟨f1, f2, f3⟩ := hfacts
  refine W.anew hx hb hown (hts _ hl) (va_AO.use f1) rfl hd (n := Int32.ofInt n') rfl (cw_nn hn.1 (by omega)) (by rw [hcl]; omega) (by have := hR.1; omega) (by have := hR.2; rw [hcl]; omega) (fun cA kA comp e1 e2 e3 e4 => ?_)
  have hcA : cA = E.2.1 t := Option.some.inj (e1.symm.trans f3)
  subst hcA
  rw [hcl]
  refine cw_new_go J hgo h (fun v hv => J.2.2.2.1 v (List.mem_cons_of_mem _ hv)) (by omega) (by omega) hn (by omega) (by simp) (fun q hq => by rw [Array.getElem?_push, if_neg (Nat.ne_of_lt hq)]) (Or.inr ⟨t, by omega, rfl, ?_⟩)
  rw [f2, ← arrV_new]
  simp
theorem si_ldc (X : cw_X p s mm args meth c E L m0 nL u) {n : Nat} (hd : decode (cw_by u) pc = .ok (.ldc n, 2)) (hr : cw_r x) (hl : Cond.constant (cw_cn (cw_oc u)) n (Int32.ofInt x) ∈ cw_T)
    (hgo : ∀ pc ls st m, K pc ls st m → cw_WW p l e R s mm args below meth c Z E L m0 mE nL pc ls st m) (h : cw_G K C Q ls m (cw_stp (pc, 2, .ldc n, 0, b, x, y) ls st m)) : cw_WW p l e R s mm args below meth c Z E L m0 mE nL pc ls st m := by
  obtain ⟨hx, hb, hml, hrt, hlk, hown, hts, hKV, hKH, h0, hin, hbs⟩ := X
  intro H locs LS J
  exact lv_ldc hx hb hown (hts _ hl) hd (hgo _ _ _ _ (h : K (pc + 2) ls (vi x :: st) m) H locs LS (cw_J_st J (cw_all1 hr J.2.2.2.1)))
theorem si_ldcw (X : cw_X p s mm args meth c E L m0 nL u) {n : Nat} (hd : decode (cw_by u) pc = .ok (.ldc_w n, 3)) (hr : cw_r x) (hl : Cond.constant (cw_cn (cw_oc u)) n (Int32.ofInt x) ∈ cw_T)
    (hgo : ∀ pc ls st m, K pc ls st m → cw_WW p l e R s mm args below meth c Z E L m0 mE nL pc ls st m) (h : cw_G K C Q ls m (cw_stp (pc, 3, .ldc_w n, 0, b, x, y) ls st m)) : cw_WW p l e R s mm args below meth c Z E L m0 mE nL pc ls st m := by
  obtain ⟨hx, hb, hml, hrt, hlk, hown, hts, hKV, hKH, h0, hin, hbs⟩ := X
  intro H locs LS J
  exact lv_ldcw hx hb hown (hts _ hl) hd (hgo _ _ _ _ (h : K (pc + 3) ls (vi x :: st) m) H locs LS (cw_J_st J (cw_all1 hr J.2.2.2.1)))
theorem si_ldc2 (X : cw_X p s mm args meth c E L m0 nL u) {n : Nat} (hd : decode (cw_by u) pc = .ok (.ldc2_w n, 3)) (hr : cw_rl x) (hl : Cond.constantLong (cw_cn (cw_oc u)) n (Int64.ofInt x) ∈ cw_T)
    (hgo : ∀ pc ls st m, K pc ls st m → cw_WW p l e R s mm args below meth c Z E L m0 mE nL pc ls st m) (h : cw_G K C Q ls m (cw_stp (pc, 3, .ldc2_w n, a, b, x, y) ls st m)) : cw_WW p l e R s mm args below meth c Z E L m0 mE nL pc ls st m := by
  obtain ⟨hx, hb, hml, hrt, hlk, hown, hts, hKV, hKH, h0, hin, hbs⟩ := X
  intro H locs LS J
  exact lv_ldc2 hx hb hown (hts _ hl) hd (hgo _ _ _ _ (h : K (pc + 3) ls (vl x :: st) m) H locs LS (cw_J_st J (cw_all1 hr J.2.2.2.1)))
theorem si_ldcS (X : cw_X p s mm args meth c E L m0 nL u) {n i : Nat} (hi : i < 11) (hxi : x = cw_sc i) {w : Nat} (hl : (w, cw_oc u, n, i) ∈ cw_LS0) (hd : decode (cw_by u) pc = .ok (.ldc n, 2))
    (hgo : ∀ pc ls st m, K pc ls st m → cw_WW p l e R s mm args below meth c Z E L m0 mE nL pc ls st m) (h : cw_G K C Q ls m (cw_stp (pc, 2, .ldc n, 2, b, x, y) ls st m)) : cw_WW p l e R s mm args below meth c Z E L m0 mE nL pc ls st m := by
  obtain ⟨hx, hb, hml, hrt, hlk, hown, hts, hKV, hKH, h0, hin, hbs⟩ := X
  intro H locs LS J
  have kk := hgo _ _ _ _ (h : K (pc + 2) ls (vr x :: st) m) H locs LS (cw_J_st J (cw_all1 (Or.inr (Or.inr (Or.inl ⟨i, hi, hxi⟩))) J.2.2.2.1))
  have kk : W p l e R s mm args below meth c H locs (m (-1) 0 - mE (-1) 0).toNat (m (-1) 1 - mE (-1) 1).toNat Z (F0 mm (pc + 2) LS (cw_rv E x :: st.map (cw_tv E))) := kk
  rw [cw_kr_nz (L := L) (m := m) (by rw [hxi, cw_sc_tg]; decide), hxi] at kk
  have hz : vk_R (cw_cn (cw_oc u)) n (cw_sx i) (cw_ad E (cw_sc i)) s := hKV.2.2.2.2 (w, cw_oc u, n, i) hl
  generalize cw_ad E (cw_sc i) = adr at hz kk
  generalize cw_sx i = txt at hz
  exact va_ldcS hx hb hown hz hd kk
theorem si_gets (X : cw_X p s mm args meth c E L m0 nL u) {n : Nat} (hd : decode (cw_by u) pc = .ok (.getstatic n, 3)) (hl : (cw_oc u = 12 ∧ n = 38 ∧ a = 0 ∧ x = 1) ∨ (cw_oc u = 12 ∧ n = 1053 ∧ a = 3) ∨ (cw_oc u = 0 ∧ n = 32 ∧ a = 2 ∧ x = cw_TREES) ∨ (cw_oc u = 9 ∧ n = 165 ∧ a = 2 ∧ x = cw_TERM))
    (hgo : ∀ pc ls st m, K pc ls st m → cw_WW p l e R s mm args below meth c Z E L m0 mE nL pc ls st m) (h : cw_G K C Q ls m (cw_stp (pc, 3, .getstatic n, a, b, x, y) ls st m)) : cw_WW p l e R s mm args below meth c Z E L m0 mE nL pc ls st m := by
  obtain ⟨hx, hb, hml, hrt, hlk, hown, hts, hKV, hKH, h0, hin, hbs⟩ := X
  intro H locs LS J
  rcases hl with ⟨hu, rfl, rfl, rfl⟩ | ⟨hu, rfl, rfl⟩ | ⟨hu, rfl, rfl, rfl⟩ | ⟨hu, rfl, rfl, rfl⟩ <;> rw [hu] at hown
  · exact va_gets hx hb hKH.2.2.1 J.2.1 hown (hts _ cw_gs_2) (fun _ z => z) hd (hgo _ _ _ _ (h : K (pc + 3) ls (vi 1 :: st) m) H locs LS (cw_J_st J (cw_all1 (show cw_r 1 from ⟨by decide, by decide⟩) J.2.2.2.1)))
  · exact va_gets hx hb hKH.2.2.2.1 J.2.1 hown (hts _ cw_gs_3) (fun _ z => z) hd (hgo _ _ _ _ (h : K (pc + 3) ls (none :: st) m) H locs LS (cw_J_st J (cw_all1 trivial J.2.2.2.1)))
  · have kk := hgo _ _ _ _ (h : K (pc + 3) ls (vr cw_TREES :: st) m) H locs LS (cw_J_st J (cw_all1 (Or.inr (Or.inr (Or.inr ⟨_, List.mem_cons_of_mem _ List.mem_cons_self, rfl⟩))) J.2.2.2.1))
    have kk : W p l e R s mm args below meth c H locs (m (-1) 0 - mE (-1) 0).toNat (m (-1) 1 - mE (-1) 1).toNat Z (F0 mm (pc + 3) LS (cw_rv E cw_TREES :: st.map (cw_tv E))) := kk
    rw [cw_kr_nz (L := L) (m := m) (by decide)] at kk
    exact va_getsN hx hb hKH.1 J.2.1 hown (va_Nw.use rfl (hKV.2.1 _ (List.mem_append_right _ (List.mem_append_right _ List.mem_cons_self)))) (fun _ z => z) hd kk
  · have kk := hgo _ _ _ _ (h : K (pc + 3) ls (vr cw_TERM :: st) m) H locs LS (cw_J_st J (cw_all1 (Or.inr (Or.inr (Or.inr ⟨_, List.mem_cons_of_mem _ (List.mem_cons_of_mem _ List.mem_cons_self), rfl⟩))) J.2.2.2.1))
    have kk : W p l e R s mm args below meth c H locs (m (-1) 0 - mE (-1) 0).toNat (m (-1) 1 - mE (-1) 1).toNat Z (F0 mm (pc + 3) LS (cw_rv E cw_TERM :: st.map (cw_tv E))) := kk
    rw [cw_kr_nz (L := L) (m := m) (by decide)] at kk
    exact va_gets hx hb hKH.2.1 J.2.1 hown (hts _ cw_gs_1) (fun _ z => z) hd kk
theorem si_ifnull (X : cw_X p s mm args meth c E L m0 nL u) {off : Int} (hd : decode (cw_by u) pc = .ok (.ifnull off, 3)) (ht : (pc : Int) + off = (a : Int))
    (hgo : ∀ pc ls st m, K pc ls st m → cw_WW p l e R s mm args below meth c Z E L m0 mE nL pc ls st m) (h : cw_G K C Q ls m (cw_stp (pc, 3, .ifnull off, a, b, x, y) ls st m)) : cw_WW p l e R s mm args below meth c Z E L m0 mE nL pc ls st m := by
  obtain ⟨hx, hb, hml, hrt, hlk, hown, hts, hKV, hKH, h0, hin, hbs⟩ := X
  obtain ⟨q, s0, rfl, h⟩ := cw_r1_inv h
  have h : (q = 0 → K a ls s0 m) ∧ (¬ q = 0 → K (pc + 3) ls s0 m) := h
  intro H locs LS J
  have J' := cw_J_st J (fun z hz => J.2.2.2.1 z (List.mem_cons_of_mem _ hz))
  show W p l e R s mm args below meth c H locs (m (-1) 0 - mE (-1) 0).toNat (m (-1) 1 - mE (-1) 1).toNat Z (F0 mm pc LS (cw_rv E q :: s0.map (cw_tv E)))
  by_cases hq : q = 0
  · rw [show cw_rv E q = .null by unfold cw_rv; rw [if_pos hq]]
    exact lv_ifnullN hx hb hd ht (hgo _ _ _ _ (h.1 hq) H locs LS J')
  · rw [show cw_rv E q = .ref (cw_ad E q) by unfold cw_rv; rw [if_neg hq]]
    exact lv_ifnull hx hb hd (hgo _ _ _ _ (h.2 hq) H locs LS J')
theorem si_ifnonnull (X : cw_X p s mm args meth c E L m0 nL u) {off : Int} (hd : decode (cw_by u) pc = .ok (.ifnonnull off, 3)) (ht : (pc : Int) + off = (a : Int))
    (hgo : ∀ pc ls st m, K pc ls st m → cw_WW p l e R s mm args below meth c Z E L m0 mE nL pc ls st m) (h : cw_G K C Q ls m (cw_stp (pc, 3, .ifnonnull off, a, b, x, y) ls st m)) : cw_WW p l e R s mm args below meth c Z E L m0 mE nL pc ls st m := by
  obtain ⟨hx, hb, hml, hrt, hlk, hown, hts, hKV, hKH, h0, hin, hbs⟩ := X
  obtain ⟨q, s0, rfl, h⟩ := cw_r1_inv h
  have h : (q ≠ 0 → K a ls s0 m) ∧ (¬ (q ≠ 0) → K (pc + 3) ls s0 m) := h
  intro H locs LS J
  have J' := cw_J_st J (fun z hz => J.2.2.2.1 z (List.mem_cons_of_mem _ hz))
  show W p l e R s mm args below meth c H locs (m (-1) 0 - mE (-1) 0).toNat (m (-1) 1 - mE (-1) 1).toNat Z (F0 mm pc LS (cw_rv E q :: s0.map (cw_tv E)))
  by_cases hq : q = 0
  · rw [show cw_rv E q = .null by unfold cw_rv; rw [if_pos hq]]
    exact lv_ifnonnullN hx hb hd (hgo _ _ _ _ (h.2 (fun z => z hq)) H locs LS J')
  · rw [show cw_rv E q = .ref (cw_ad E q) by unfold cw_rv; rw [if_neg hq]]
    exact lv_ifnonnull hx hb hd ht (hgo _ _ _ _ (h.1 hq) H locs LS J')
theorem si_tsw (X : cw_X p s mm args meth c E L m0 nL u) {d lo hi : Int} {os : Array Int} (hd : decode (cw_by u) pc = .ok (.tableswitch d lo hi os, len)) (h1 : 0 ≤ (pc : Int) + d) (h2 : os.size = (hi - lo + 1).toNat) (h3 : ∀ z ∈ os.toList, 0 ≤ (pc : Int) + z)
    (hgo : ∀ pc ls st m, K pc ls st m → cw_WW p l e R s mm args below meth c Z E L m0 mE nL pc ls st m) (h : cw_G K C Q ls m (cw_stp (pc, len, .tableswitch d lo hi os, a, b, x, y) ls st m)) : cw_WW p l e R s mm args below meth c Z E L m0 mE nL pc ls st m := by
  obtain ⟨hx, hb, hml, hrt, hlk, hown, hts, hKV, hKH, h0, hin, hbs⟩ := X
  obtain ⟨v, s0, rfl, h⟩ := cw_p1_inv h
  have h : K (cw_ts pc d lo hi os v) ls s0 m := h
  intro H locs LS J
  have hv := J.2.2.2.1 _ List.mem_cons_self
  have J' := cw_J_st J (fun z hz => J.2.2.2.1 z (List.mem_cons_of_mem _ hz))
  unfold cw_ts at h
  have kk := hgo _ _ _ _ h H locs LS J'
  have e := cw_ti hv
  by_cases c1 : v < lo
  · rw [if_pos c1] at kk
    exact lv_tableOut hx hb hd (Or.inl (by rw [e]; exact c1)) (by omega) kk
  · rw [if_neg c1] at kk
    by_cases c2 : hi < v
    · rw [if_pos c2] at kk
      exact lv_tableOut hx hb hd (Or.inr (by rw [e]; exact c2)) (by omega) kk
    · rw [if_neg c2] at kk
      have hlt : (v - lo).toNat < os.size := by omega
      have hg : os.getD (v - lo).toNat 0 = os[(v - lo).toNat] := by simp [Array.getD, hlt]
      rw [hg] at kk
      have hz := h3 _ (Array.mem_toList_iff.mpr (Array.getElem_mem hlt))
      exact lv_tableIn hx hb hd (by rw [e]; exact c1) (by rw [e]; exact c2) (by rw [e]; exact Array.getElem?_eq_getElem hlt) (by omega) kk
theorem si_objinit (X : cw_X p s mm args meth c E L m0 nL u) {n : Nat} (hd : decode (cw_by u) pc = .ok (.invokespecial n, 3)) (hl : Cond.methodLink (cw_cn (cw_oc u)) n objectInit ∈ cw_T) (hfr : 1 ≤ R.frames ∧ 64 ≤ R.locals)
    (hgo : ∀ pc ls st m, K pc ls st m → cw_WW p l e R s mm args below meth c Z E L m0 mE nL pc ls st m) (h : cw_G K C Q ls m (cw_stp (pc, 3, .invokespecial n, 0, b, x, y) ls st m)) : cw_WW p l e R s mm args below meth c Z E L m0 mE nL pc ls st m := by
  obtain ⟨hx, hb, hml, hrt, hlk, hown, hts, hKV, hKH, h0, hin, hbs⟩ := X
  obtain ⟨q, s0, rfl, h1⟩ := cw_r1_inv h
  obtain ⟨hcs, h1⟩ := cw_bif_inv h1
  have hcs := Nat.le_of_ble_eq_true hcs
  obtain ⟨h2, h1⟩ := h1
  intro H locs LS J
  have kk := hgo _ _ _ _ h1 H locs LS (cw_J_st J (fun z hz => J.2.2.2.1 z (List.mem_cons_of_mem _ hz)))
  show W p l e R s mm args below meth c H locs (m (-1) 0 - mE (-1) 0).toNat (m (-1) 1 - mE (-1) 1).toNat Z (F0 mm pc LS (cw_rv E q :: s0.map (cw_tv E)))
  rw [show cw_rv E q = .ref (cw_ad E q) by unfold cw_rv; rw [if_neg h2]]
  refine W.objInit hx hb hown (hts _ hl) (hts _ cw_ob_in) (hts _ cw_ob_co) rfl (by rw [hml]; exact J.2.2.1.1.1) rfl hd hfr.1 ?_ kk
  show 2 * 0 + ((s0.map (cw_tv E)).map fun v => v.category).sum + 12 ≤ R.locals
  rw [cw_csum h0]; omega
end CWN
