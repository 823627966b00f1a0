/-! One step of the abstract machine, carried over to the JVM: arrays, stores, new cells, constants. -/
theorem cw_fk4 : ∀ t : Nat, t < 11 → ∀ k : Nat, k < cw_N t → (cw_fk (cw_ty t k)).2 < 2 ∨ (cw_fk (cw_ty t k)).2 = 3 := by decide +kernel
section CWA
variable {p : Program} {l : Launch} {e : Env} {R : Room} {s : State} {mm : MethodId} {args : Array Value} {below : List Frame} {meth : Method} {c : Code} {Z : State → Prop} {E : cw_E} {L : Nat} {m0 mE : cw_M} {nL u : Nat}
variable {K : Nat → List cw_V → List cw_V → cw_M → Prop} {C : Nat → List cw_V → cw_M → (Option cw_V → cw_M → Prop) → Prop} {Q : Option cw_V → cw_M → Prop} {ls st : List cw_V} {m : cw_M} {pc len a b : Nat} {x y : Int}
theorem cw_kr_big {q : Int} (h0 : cw_m0 E L m0) (h : cw_kr L m q) (ho : cw_own q) : cw_vd m q := by
  unfold cw_own at ho
  rcases h with rfl | h | ⟨i, hi, rfl⟩ | ⟨w, hw, rfl⟩
  · omega
  · exact h
  · unfold cw_sc at ho; omega
  · have := (cw_ca_tg h0.2.2.2 hw).2.2.2; omega
theorem cw_put_go {H H' : Heap} {locs : List Loc} {LS : Array Slot} {q i w : Int} {s0 : List cw_V} {n k : Nat} (J : cw_J E L m0 s nL mE ls st m H locs LS) (hgo : ∀ pc ls st m, K pc ls st m → cw_WW p l e R s mm args below meth c Z E L m0 mE nL pc ls st m) (h : K n ls s0 (cw_put m q i w)) (hvd : cw_vd m q) (hrep : cw_rep E L m0 (cw_put m q i w) H') (e2 : H'.size = H.size) (e3 : ∀ z, z ≠ cw_ad E q → H'[z]? = H[z]?) (hs : ∀ v ∈ s0, cw_kk L m v) :
    W p l e R s mm args below meth c H' (locs ++ [⟨cw_ad E q, k⟩]) (m (-1) 0 - mE (-1) 0).toNat (m (-1) 1 - mE (-1) 1).toNat Z (F0 mm n LS (s0.map (cw_tv E))) := by
  have hq := hvd.1
  have h1 : cw_put m q i w (-1) = m (-1) := cw_put_ne (by omega)
  have h2 : cw_put m q i w (-2) = m (-2) := cw_put_ne (by omega)
  have kk := hgo _ _ _ _ h H' (locs ++ [⟨cw_ad E q, k⟩]) LS ⟨hrep, J.2.1.put e2 e3 (by rw [cw_ad_own hq]; exact Nat.le_add_right _ _), J.2.2.1, fun v hv => (cw_kk_of h1 h2 v).mpr (hs v hv), fun i v hv => (cw_kk_of h1 h2 _).mpr (J.2.2.2.2.1 i v hv), by rw [h1]; exact J.2.2.2.2.2⟩
  rw [h1] at kk
  exact kk
theorem si_iaload (X : cw_X p s mm args meth c E L m0 nL u) (hd : decode (cw_by u) pc = .ok (.iaload, 1)) (hgo : ∀ pc ls st m, K pc ls st m → cw_WW p l e R s mm args below meth c Z E L m0 mE nL pc ls st m) (h : cw_G K C Q ls m (cw_stp (pc, 1, .iaload, a, b, x, y) ls st m)) : cw_WW p l e R s mm args below meth c Z E L m0 mE nL pc ls st m := by
  obtain ⟨hx, hb, hml, hrt, hlk, hown, hts, hKV, hKH, h0, hin, hbs⟩ := X
  obtain ⟨q, i, s0, rfl, h⟩ := cw_ri_inv h
  obtain ⟨⟨htg, h1, h2⟩, h⟩ := h
  intro H locs LS J
  have hq := J.2.2.2.1 _ (List.mem_cons_of_mem _ List.mem_cons_self)
  obtain ⟨hr, cell, g1, g2, g3, g4, g5, g6⟩ := cw_read (t := 0) hKV hKH h0 J.1 J.2.1 hq (by decide) htg
  have hln : cw_ln q < 16384 := by unfold cw_ln; omega
  obtain ⟨g7, g8⟩ := g6 i.toNat (by omega)
  rw [show ((i.toNat : Nat) : Int) = i by omega] at g7 g8
  have kk := hgo _ _ _ _ (h : K (pc + 1) ls (vi (m q i) :: s0) m) H locs LS (cw_J_st J (cw_all1 g8 (fun z hz => J.2.2.2.1 z (List.mem_cons_of_mem _ (List.mem_cons_of_mem _ hz)))))
  show W p l e R s mm args below meth c H locs (m (-1) 0 - mE (-1) 0).toNat (m (-1) 1 - mE (-1) 1).toNat Z (F0 mm pc LS (.int (Int32.ofInt i) :: cw_rv E q :: s0.map (cw_tv E)))
  rw [hr]
  have hcl : (Int32.ofInt i).toNatClampNeg = i.toNat := cw_clp h1 (by omega)
  exact W.iald hx hb g1 g2 g3 (by rintro (z | z); exact cw_nn h1 (by omega) z; rw [hcl] at z; omega) (by rw [hcl]; exact g7) rfl rfl hd kk
theorem si_laload (X : cw_X p s mm args meth c E L m0 nL u) (hd : decode (cw_by u) pc = .ok (.laload, 1)) (hgo : ∀ pc ls st m, K pc ls st m → cw_WW p l e R s mm args below meth c Z E L m0 mE nL pc ls st m) (h : cw_G K C Q ls m (cw_stp (pc, 1, .laload, a, b, x, y) ls st m)) : cw_WW p l e R s mm args below meth c Z E L m0 mE nL pc ls st m := by
  obtain ⟨hx, hb, hml, hrt, hlk, hown, hts, hKV, hKH, h0, hin, hbs⟩ := X
  obtain ⟨q, i, s0, rfl, h⟩ := cw_ri_inv h
  obtain ⟨⟨htg, h1, h2⟩, h⟩ := h
  intro H locs LS J
  have hq := J.2.2.2.1 _ (List.mem_cons_of_mem _ List.mem_cons_self)
  obtain ⟨hr, cell, g1, g2, g3, g4, g5, g6⟩ := cw_read (t := 1) hKV hKH h0 J.1 J.2.1 hq (by decide) htg
  have hln : cw_ln q < 16384 := by unfold cw_ln; omega
  obtain ⟨g7, g8⟩ := g6 i.toNat (by omega)
  rw [show ((i.toNat : Nat) : Int) = i by omega] at g7 g8
  have kk := hgo _ _ _ _ (h : K (pc + 1) ls (vl (m q i) :: s0) m) H locs LS (cw_J_st J (cw_all1 g8 (fun z hz => J.2.2.2.1 z (List.mem_cons_of_mem _ (List.mem_cons_of_mem _ hz)))))
  show W p l e R s mm args below meth c H locs (m (-1) 0 - mE (-1) 0).toNat (m (-1) 1 - mE (-1) 1).toNat Z (F0 mm pc LS (.int (Int32.ofInt i) :: cw_rv E q :: s0.map (cw_tv E)))
  rw [hr]
  have hcl : (Int32.ofInt i).toNatClampNeg = i.toNat := cw_clp h1 (by omega)
  exact W.lald hx hb g1 g2 g3 (by rintro (z | z); exact cw_nn h1 (by omega) z; rw [hcl] at z; omega) (by rw [hcl]; exact g7) rfl rfl hd kk
theorem si_baload (X : cw_X p s mm args meth c E L m0 nL u) (hd : decode (cw_by u) pc = .ok (.baload, 1)) (hgo : ∀ pc ls st m, K pc ls st m → cw_WW p l e R s mm args below meth c Z E L m0 mE nL pc ls st m) (h : cw_G K C Q ls m (cw_stp (pc, 1, .baload, a, b, x, y) ls st m)) : cw_WW p l e R s mm args below meth c Z E L m0 mE nL pc ls st m := by
  obtain ⟨hx, hb, hml, hrt, hlk, hown, hts, hKV, hKH, h0, hin, hbs⟩ := X
  obtain ⟨q, i, s0, rfl, h⟩ := cw_ri_inv h
  obtain ⟨⟨htg, h1, h2⟩, h⟩ := h
  intro H locs LS J
  have hq := J.2.2.2.1 _ (List.mem_cons_of_mem _ List.mem_cons_self)
  have hln : cw_ln q < 16384 := by unfold cw_ln; omega
  have hcl : (Int32.ofInt i).toNatClampNeg = i.toNat := cw_clp h1 (by omega)
  rcases htg with htg | htg
  · obtain ⟨hr, cell, g1, g2, g3, g4, g5, g6⟩ := cw_read (t := 2) hKV hKH h0 J.1 J.2.1 hq (by decide) htg
    obtain ⟨g7, g8⟩ := g6 i.toNat (by omega)
    rw [show ((i.toNat : Nat) : Int) = i by omega] at g7 g8
    have kk := hgo _ _ _ _ (h : K (pc + 1) ls (vi (m q i) :: s0) m) H locs LS (cw_J_st J (cw_all1 g8 (fun z hz => J.2.2.2.1 z (List.mem_cons_of_mem _ (List.mem_cons_of_mem _ hz)))))
    show W p l e R s mm args below meth c H locs (m (-1) 0 - mE (-1) 0).toNat (m (-1) 1 - mE (-1) 1).toNat Z (F0 mm pc LS (.int (Int32.ofInt i) :: cw_rv E q :: s0.map (cw_tv E)))
    rw [hr]
    exact W.zald hx hb g1 g2 g3 (by rintro (z | z); exact cw_nn h1 (by omega) z; rw [hcl] at z; omega) (by rw [hcl]; exact g7) rfl rfl hd kk
  · obtain ⟨hr, cell, g1, g2, g3, g4, g5, g6⟩ := cw_read (t := 3) hKV hKH h0 J.1 J.2.1 hq (by decide) htg
    obtain ⟨g7, g8⟩ := g6 i.toNat (by omega)
    rw [show ((i.toNat : Nat) : Int) = i by omega] at g7 g8
    have kk := hgo _ _ _ _ (h : K (pc + 1) ls (vi (m q i) :: s0) m) H locs LS (cw_J_st J (cw_all1 g8 (fun z hz => J.2.2.2.1 z (List.mem_cons_of_mem _ (List.mem_cons_of_mem _ hz)))))
    show W p l e R s mm args below meth c H locs (m (-1) 0 - mE (-1) 0).toNat (m (-1) 1 - mE (-1) 1).toNat Z (F0 mm pc LS (.int (Int32.ofInt i) :: cw_rv E q :: s0.map (cw_tv E)))
    rw [hr]
    exact W.bald hx hb g1 g2 g3 (by rintro (z | z); exact cw_nn h1 (by omega) z; rw [hcl] at z; omega) (by rw [hcl]; exact g7) rfl rfl hd kk
theorem si_aaload (X : cw_X p s mm args meth c E L m0 nL u) (hd : decode (cw_by u) pc = .ok (.aaload, 1)) (hgo : ∀ pc ls st m, K pc ls st m → cw_WW p l e R s mm args below meth c Z E L m0 mE nL pc ls st m) (h : cw_G K C Q ls m (cw_stp (pc, 1, .aaload, a, b, x, y) ls st m)) : cw_WW p l e R s mm args below meth c Z E L m0 mE nL pc ls st m := by
  obtain ⟨hx, hb, hml, hrt, hlk, hown, hts, hKV, hKH, h0, hin, hbs⟩ := X
  obtain ⟨q, i, s0, rfl, h⟩ := cw_ri_inv h
  obtain ⟨⟨htg, h1, h2⟩, h⟩ := h
  intro H locs LS J
  have hq := J.2.2.2.1 _ (List.mem_cons_of_mem _ List.mem_cons_self)
  have hln : cw_ln q < 16384 := by unfold cw_ln; omega
  have hcl : (Int32.ofInt i).toNatClampNeg = i.toNat := cw_clp h1 (by omega)
  have main : ∀ t : Nat, t = 4 ∨ t = 5 → cw_tg q = (t : Int) + 40 → W p l e R s mm args below meth c H locs (m (-1) 0 - mE (-1) 0).toNat (m (-1) 1 - mE (-1) 1).toNat Z (F0 mm pc LS (.int (Int32.ofInt i) :: cw_rv E q :: s0.map (cw_tv E))) := by
    intro t ht htg
    obtain ⟨hr, cell, g1, g2, g3, g4, g5, g6⟩ := cw_read (t := t) hKV hKH h0 J.1 J.2.1 hq (by omega) htg
    obtain ⟨g7, g8⟩ := g6 i.toNat (by omega)
    rw [show ((i.toNat : Nat) : Int) = i by omega] at g7 g8
    have hk2 : cw_kv (cw_ak t) (m q i) = vr (m q i) := by rcases ht with rfl | rfl <;> rfl
    rw [hk2] at g7 g8
    have kk := hgo _ _ _ _ (h : K (pc + 1) ls (vr (m q i) :: s0) m) H locs LS (cw_J_st J (cw_all1 g8 (fun z hz => J.2.2.2.1 z (List.mem_cons_of_mem _ (List.mem_cons_of_mem _ hz)))))
    rw [hr]
    exact W.aald hx hb g1 g2 (by rcases ht with rfl | rfl <;> rfl) g3 (by rintro (z | z); exact cw_nn h1 (by omega) z; rw [hcl] at z; omega) (by rw [hcl]; exact g7) rfl rfl hd kk
  rcases htg with htg | htg
  · exact main 4 (Or.inl rfl) htg
  · exact main 5 (Or.inr rfl) htg
theorem si_alen (X : cw_X p s mm args meth c E L m0 nL u) (hd : decode (cw_by u) pc = .ok (.arraylength, 1)) (hgo : ∀ pc ls st m, K pc ls st m → cw_WW p l e R s mm args below meth c Z E L m0 mE nL pc ls st m) (h : cw_G K C Q ls m (cw_stp (pc, 1, .arraylength, a, b, x, y) ls st m)) : cw_WW p l e R s mm args below meth c Z E L m0 mE nL pc ls st m := by
  obtain ⟨hx, hb, hml, hrt, hlk, hown, hts, hKV, hKH, h0, hin, hbs⟩ := X
  obtain ⟨q, s0, rfl, h⟩ := cw_r1_inv h
  obtain ⟨htg, h⟩ := h
  intro H locs LS J
  have hq := J.2.2.2.1 _ List.mem_cons_self
  have hln : 0 ≤ cw_ln q ∧ cw_ln q < 16384 := by unfold cw_ln; omega
  have hex : ∃ t : Nat, t < 6 ∧ cw_tg q = (t : Int) + 40 := by
    rcases hq with rfl | hv | ⟨i, hi, rfl⟩ | ⟨w, hw, rfl⟩
    · have e : cw_tg 0 = 0 := by decide
      omega
    · rcases (J.1.2.1 q hv).1 with ⟨t', t1, t2, t3⟩ | ⟨t', t1, t2, t3⟩
      · omega
      · exact ⟨t', t1, t2⟩
    · rw [cw_sc_tg] at htg; omega
    · rcases (cw_ca_tg h0.2.2.2 hw).1 with g | g
      · exact ⟨0, by decide, g.1⟩
      · exact ⟨3, by decide, g.1⟩
  obtain ⟨t, ht, htg⟩ := hex
  obtain ⟨hr, cell, g1, g2, g3, g4, g5, g6⟩ := cw_read (t := t) hKV hKH h0 J.1 J.2.1 hq ht htg
  have kk := hgo _ _ _ _ (h : K (pc + 1) ls (vi (cw_ln q) :: s0) m) H locs LS (cw_J_st J (cw_all1 (show cw_r (cw_ln q) from ⟨by omega, by omega⟩) (fun z hz => J.2.2.2.1 z (List.mem_cons_of_mem _ hz))))
  show W p l e R s mm args below meth c H locs (m (-1) 0 - mE (-1) 0).toNat (m (-1) 1 - mE (-1) 1).toNat Z (F0 mm pc LS (cw_rv E q :: s0.map (cw_tv E)))
  rw [hr]
  refine W.alen (n := Int32.ofInt (cw_ln q)) hx hb g1 g2 ?_ rfl rfl hd kk
  rw [g5]
  have : Int32.ofNat (cw_ln q).toNat = Int32.ofInt (((cw_ln q).toNat : Nat) : Int) := rfl
  rw [this]
  congr 1
  omega
theorem si_iastore (X : cw_X p s mm args meth c E L m0 nL u) (hd : decode (cw_by u) pc = .ok (.iastore, 1)) (hgo : ∀ pc ls st m, K pc ls st m → cw_WW p l e R s mm args below meth c Z E L m0 mE nL pc ls st m) (h : cw_G K C Q ls m (cw_stp (pc, 1, .iastore, a, b, x, y) ls st m)) : cw_WW p l e R s mm args below meth c Z E L m0 mE nL pc ls st m := by
  obtain ⟨hx, hb, hml, hrt, hlk, hown, hts, hKV, hKH, h0, hin, hbs⟩ := X
  obtain ⟨q, i, w, s0, rfl, h⟩ := cw_rii_inv h
  obtain ⟨⟨⟨htg, how⟩, h1, h2⟩, h⟩ := h
  intro H locs LS J
  have hw := J.2.2.2.1 _ List.mem_cons_self
  have hq := J.2.2.2.1 _ (List.mem_cons_of_mem _ (List.mem_cons_of_mem _ List.mem_cons_self))
  have hln : cw_ln q < 16384 := by unfold cw_ln; omega
  have hcl : (Int32.ofInt i).toNatClampNeg = i.toNat := cw_clp h1 (by omega)
  have hvd : cw_vd m q := cw_kr_big h0 hq how
  have hr : cw_rv E q = .ref (cw_ad E q) := cw_kr_nz (L := L) (m := m) (by omega)
  have ha := cw_arr (t := 0) J.1 hvd (by decide) htg
  show W p l e R s mm args below meth c H locs (m (-1) 0 - mE (-1) 0).toNat (m (-1) 1 - mE (-1) 1).toNat Z (F0 mm pc LS (.int (Int32.ofInt w) :: .int (Int32.ofInt i) :: cw_rv E q :: s0.map (cw_tv E)))
  rw [hr]
  refine W.iast hx hb ha (cw_aat hKV.1 (t := 0) (by decide) _ _) (fun z => by cases z) (by rw [arrV_size]; rintro (z | z); exact cw_nn h1 (by omega) z; rw [hcl] at z; omega) rfl rfl hd (fun H' e1 e2 e3 => ?_)
  rw [hcl] at e1 ⊢
  exact cw_put_go J hgo h hvd (cw_rep_elem (t := 0) J.1 hvd (by decide) htg h1 e2 e3 ha e1 hw) e2 e3 (fun z hz => J.2.2.2.1 z (List.mem_cons_of_mem _ (List.mem_cons_of_mem _ (List.mem_cons_of_mem _ hz))))
theorem si_lastore (X : cw_X p s mm args meth c E L m0 nL u) (hd : decode (cw_by u) pc = .ok (.lastore, 1)) (hgo : ∀ pc ls st m, K pc ls st m → cw_WW p l e R s mm args below meth c Z E L m0 mE nL pc ls st m) (h : cw_G K C Q ls m (cw_stp (pc, 1, .lastore, a, b, x, y) ls st m)) : cw_WW p l e R s mm args below meth c Z E L m0 mE nL pc ls st m := by
  obtain ⟨hx, hb, hml, hrt, hlk, hown, hts, hKV, hKH, h0, hin, hbs⟩ := X
  obtain ⟨q, i, w, s0, rfl, h⟩ := cw_ril_inv h
  obtain ⟨⟨⟨htg, how⟩, h1, h2⟩, h⟩ := h
  intro H locs LS J
  have hw := J.2.2.2.1 _ List.mem_cons_self
  have hq := J.2.2.2.1 _ (List.mem_cons_of_mem _ (List.mem_cons_of_mem _ List.mem_cons_self))
  have hln : cw_ln q < 16384 := by unfold cw_ln; omega
  have hcl : (Int32.ofInt i).toNatClampNeg = i.toNat := cw_clp h1 (by omega)
  have hvd : cw_vd m q := cw_kr_big h0 hq how
  have hr : cw_rv E q = .ref (cw_ad E q) := cw_kr_nz (L := L) (m := m) (by omega)
  have ha := cw_arr (t := 1) J.1 hvd (by decide) htg
  show W p l e R s mm args below meth c H locs (m (-1) 0 - mE (-1) 0).toNat (m (-1) 1 - mE (-1) 1).toNat Z (F0 mm pc LS (.long (Int64.ofInt w) :: .int (Int32.ofInt i) :: cw_rv E q :: s0.map (cw_tv E)))
  rw [hr]
  refine W.last hx hb ha (cw_aat hKV.1 (t := 1) (by decide) _ _) (fun z => by cases z) (by rw [arrV_size]; rintro (z | z); exact cw_nn h1 (by omega) z; rw [hcl] at z; omega) rfl rfl hd (fun H' e1 e2 e3 => ?_)
  rw [hcl] at e1 ⊢
  exact cw_put_go J hgo h hvd (cw_rep_elem (t := 1) J.1 hvd (by decide) htg h1 e2 e3 ha e1 hw) e2 e3 (fun z hz => J.2.2.2.1 z (List.mem_cons_of_mem _ (List.mem_cons_of_mem _ (List.mem_cons_of_mem _ hz))))
theorem si_bastore (X : cw_X p s mm args meth c E L m0 nL u) (hd : decode (cw_by u) pc = .ok (.bastore, 1)) (hgo : ∀ pc ls st m, K pc ls st m → cw_WW p l e R s mm args below meth c Z E L m0 mE nL pc ls st m) (h : cw_G K C Q ls m (cw_stp (pc, 1, .bastore, a, b, x, y) ls st m)) : cw_WW p l e R s mm args below meth c Z E L m0 mE nL pc ls st m := by
  obtain ⟨hx, hb, hml, hrt, hlk, hown, hts, hKV, hKH, h0, hin, hbs⟩ := X
  obtain ⟨q, i, w, s0, rfl, h⟩ := cw_rii_inv h
  obtain ⟨⟨⟨htg, how⟩, h1, h2⟩, h⟩ := h
  intro H locs LS J
  have hw := J.2.2.2.1 _ List.mem_cons_self
  have hq := J.2.2.2.1 _ (List.mem_cons_of_mem _ (List.mem_cons_of_mem _ List.mem_cons_self))
  have hln : cw_ln q < 16384 := by unfold cw_ln; omega
  have hcl : (Int32.ofInt i).toNatClampNeg = i.toNat := cw_clp h1 (by omega)
  have hvd : cw_vd m q := cw_kr_big h0 hq how
  have hr : cw_rv E q = .ref (cw_ad E q) := cw_kr_nz (L := L) (m := m) (by rcases htg with z | z <;> omega)
  show W p l e R s mm args below meth c H locs (m (-1) 0 - mE (-1) 0).toNat (m (-1) 1 - mE (-1) 1).toNat Z (F0 mm pc LS (.int (Int32.ofInt w) :: .int (Int32.ofInt i) :: cw_rv E q :: s0.map (cw_tv E)))
  rw [hr]
  rcases htg with ⟨htg, hok⟩ | ⟨htg, hok⟩
  · have ha := cw_arr (t := 2) J.1 hvd (by decide) htg
    have hn := (cw_nf (E := E) h0 (ty := .boolean) (a := 0) (b := 1) (v := w) rfl (fun _ => hw) (fun _ => hok) (by decide) (by decide)).1
    refine W.zast hx hb ha (cw_aat hKV.1 (t := 2) (by decide) _ _) (fun z => by cases z) (by rw [arrV_size]; rintro (z | z); exact cw_nn h1 (by omega) z; rw [hcl] at z; omega) rfl rfl hd (fun H' e1 e2 e3 => ?_)
    rw [hcl] at e1 ⊢
    rw [show narrow .boolean (.int (Int32.ofInt w)) = .int (Int32.ofInt w) from hn] at e1
    exact cw_put_go J hgo h hvd (cw_rep_elem (t := 2) J.1 hvd (by decide) htg h1 e2 e3 ha e1 hw) e2 e3 (fun z hz => J.2.2.2.1 z (List.mem_cons_of_mem _ (List.mem_cons_of_mem _ (List.mem_cons_of_mem _ hz))))
  · have ha := cw_arr (t := 3) J.1 hvd (by decide) htg
    have hn := (cw_nf (E := E) h0 (ty := .byte) (a := 0) (b := 3) (v := w) rfl (fun _ => hw) (fun _ => hok) (by decide) (by decide)).1
    refine W.bast hx hb ha (cw_aat hKV.1 (t := 3) (by decide) _ _) (fun z => by cases z) (by rw [arrV_size]; rintro (z | z); exact cw_nn h1 (by omega) z; rw [hcl] at z; omega) rfl rfl hd (fun H' e1 e2 e3 => ?_)
    rw [hcl] at e1 ⊢
    rw [show narrow .byte (.int (Int32.ofInt w)) = .int (Int32.ofInt w) from hn] at e1
    exact cw_put_go J hgo h hvd (cw_rep_elem (t := 3) J.1 hvd (by decide) htg h1 e2 e3 ha e1 hw) e2 e3 (fun z hz => J.2.2.2.1 z (List.mem_cons_of_mem _ (List.mem_cons_of_mem _ (List.mem_cons_of_mem _ hz))))
theorem si_aastore (X : cw_X p s mm args meth c E L m0 nL u) (hd : decode (cw_by u) pc = .ok (.aastore, 1)) (hgo : ∀ pc ls st m, K pc ls st m → cw_WW p l e R s mm args below meth c Z E L m0 mE nL pc ls st m) (h : cw_G K C Q ls m (cw_stp (pc, 1, .aastore, a, b, x, y) ls st m)) : cw_WW p l e R s mm args below meth c Z E L m0 mE nL pc ls st m := by
  obtain ⟨hx, hb, hml, hrt, hlk, hown, hts, hKV, hKH, h0, hin, hbs⟩ := X
  obtain ⟨q, i, w, s0, rfl, h⟩ := cw_rir_inv h
  obtain ⟨⟨⟨htg, how⟩, h1, h2⟩, h⟩ := h
  intro H locs LS J
  have hw := J.2.2.2.1 _ List.mem_cons_self
  have hq := J.2.2.2.1 _ (List.mem_cons_of_mem _ (List.mem_cons_of_mem _ List.mem_cons_self))
  have hln : cw_ln q < 16384 := by unfold cw_ln; omega
  have hcl : (Int32.ofInt i).toNatClampNeg = i.toNat := cw_clp h1 (by omega)
  have hvd : cw_vd m q := cw_kr_big h0 hq how
  have hr : cw_rv E q = .ref (cw_ad E q) := cw_kr_nz (L := L) (m := m) (by rcases htg with z | z <;> omega)
  have hrest := (fun z hz => J.2.2.2.1 z (List.mem_cons_of_mem _ (List.mem_cons_of_mem _ (List.mem_cons_of_mem _ hz))))
  show W p l e R s mm args below meth c H locs (m (-1) 0 - mE (-1) 0).toNat (m (-1) 1 - mE (-1) 1).toNat Z (F0 mm pc LS (cw_rv E w :: .int (Int32.ofInt i) :: cw_rv E q :: s0.map (cw_tv E)))
  rw [hr]
  have main : ∀ (t tc : Nat), t < 6 → tc < 11 → cw_tg q = (t : Int) + 40 → cw_ak t = 2 → cw_aty t = .object (cw_cn tc) → (∃ kA comp, s.vm.classes[E.2.1 t]? = some kA ∧ kA.kind = .array comp (.object (cw_cn tc)) ∧ s.vm.findClass (cw_cn tc) = some comp) → (w = 0 ∨ cw_tg w = (tc : Int) + 1) → W p l e R s mm args below meth c H locs (m (-1) 0 - mE (-1) 0).toNat (m (-1) 1 - mE (-1) 1).toNat Z (F0 mm pc LS (cw_rv E w :: .int (Int32.ofInt i) :: .ref (cw_ad E q) :: s0.map (cw_tv E))) := by
    intro t tc ht htc htq hak haty hRA hwt
    have ha := cw_arr (t := t) J.1 hvd ht htq
    have hkv : ∀ z : Int, cw_kv (cw_ak t) z = vr z := fun z => by rw [hak]; rfl
    rcases hwt with rfl | hwt
    · have e0 : cw_rv E 0 = .null := by unfold cw_rv; rw [if_pos rfl]
      rw [e0]
      refine va_WaastN (C := cw_cn tc) hx hb ha (by rw [← haty]; exact cw_aat hKV.1 ht _ _) (fun z => by cases z) (by rw [arrV_size]; rintro (z | z); exact cw_nn h1 (by omega) z; rw [hcl] at z; omega) rfl rfl hd (fun H' e1 e2 e3 => ?_)
      rw [hcl] at e1 ⊢
      exact cw_put_go J hgo h hvd (cw_rep_elem (t := t) J.1 hvd ht htq h1 e2 e3 ha (by rw [hkv]; show _ = some (Cell.setSlot _ _ (cw_rv E 0)); rw [e0]; exact e1) (by rw [hkv]; exact hw)) e2 e3 hrest
    · have hwd : cw_vd m w := cw_kr_own h0.2.2.2 hw hwt (Or.inl ⟨by omega, by omega⟩)
      have hwr : cw_rv E w = .ref (cw_ad E w) := cw_kr_nz (L := L) (m := m) (by omega)
      rw [hwr]
      obtain ⟨cellw, w1, w2, w3, -⟩ := cw_obj J.1 hwd htc hwt
      obtain ⟨kA, comp, a1, a2, a3⟩ := hRA
      obtain ⟨-, hfc, kC, hkC, hkind⟩ := hKV.1.1 tc _ (cw_clsat htc)
      have hcomp : comp = E.1.1 tc := Option.some.inj (a3.symm.trans hfc)
      subst hcomp
      refine W.aast hx hb ha (fun z q => by cases q) (fun z => by cases z) a1 a2 rfl hkC ⟨cw_nn h1 (by omega), by rw [arrV_size, hcl]; omega⟩ w1 (fun z q => by rw [w3] at q; cases q) (by rw [w2]; exact hkC) (by rw [w2]; exact va_assign ⟨hfc, kC, hkC, hkind⟩) rfl rfl hd (fun H' e1 e2 e3 => ?_)
      rw [hcl] at e1 ⊢
      exact cw_put_go J hgo h hvd (cw_rep_elem (t := t) J.1 hvd ht htq h1 e2 e3 ha (by rw [hkv]; show _ = some (Cell.setSlot _ _ (cw_rv E w)); rw [hwr]; exact e1) (by rw [hkv]; exact hw)) e2 e3 hrest
  rcases htg with ⟨htg, hwt⟩ | ⟨htg, hwt⟩
  · obtain ⟨kA, comp, a1, a2, a3, -⟩ := (hKV.1.2 4 _ rfl).2
    exact main 4 7 (by decide) (by decide) htg rfl rfl ⟨kA, comp, a1, a2, a3⟩ hwt
  · obtain ⟨kA, comp, a1, a2, a3, -⟩ := (hKV.1.2 5 _ rfl).2
    exact main 5 8 (by decide) (by decide) htg rfl rfl ⟨kA, comp, a1, a2, a3⟩ hwt
theorem si_putf (X : cw_X p s mm args meth c E L m0 nL u) {n t k : Nat} (ht : t < 11) (hk : k < cw_N t) (hab : cw_fk (cw_ty t k) = (a, b)) (hd : decode (cw_by u) pc = .ok (.putfield n, 3)) (hl : Cond.fieldLink (cw_cn (cw_oc u)) n (cw_TT t k).1 (cw_TT t k).2.1 (cw_TT t k).2.2.1 ∈ cw_T ∧ ((cw_TT t k).2.2.2 = false ∨ (cw_kn u = 2 ∧ cw_oc u = t)) ∨ Cond.fieldLinkNest (cw_cn (cw_oc u)) n (cw_TT t k).1 (cw_TT t k).2.1 (cw_TT t k).2.2.1 "CommaWill" ∈ cw_NW ∧ (cw_TT t k).2.2.2 = false) (hgo : ∀ pc ls st m, K pc ls st m → cw_WW p l e R s mm args below meth c Z E L m0 mE nL pc ls st m) (h : cw_G K C Q ls m (cw_stp (pc, 3, .putfield n, a, b, (t : Int) + 1, (k : Int)) ls st m)) : cw_WW p l e R s mm args below meth c Z E L m0 mE nL pc ls st m := by
  obtain ⟨hx, hb, hml, hrt, hlk, hown, hts, hKV, hKH, h0, hin, hbs⟩ := X
  have core : ∀ (q w : Int) (s0 : List cw_V), st = cw_kv (cw_fld t k) w :: vr q :: s0 → cw_tg q = (t : Int) + 1 → cw_own q → (cw_fld t k = 0 → cw_ok (cw_fk (cw_ty t k)).2 w) → K (pc + 3) ls s0 (cw_put m q k w) → cw_WW p l e R s mm args below meth c Z E L m0 mE nL pc ls st m := by
    intro q w s0 hst htg how hok hK1
    subst hst
    intro H locs LS J
    have hw := J.2.2.2.1 _ List.mem_cons_self
    have hq := J.2.2.2.1 _ (List.mem_cons_of_mem _ List.mem_cons_self)
    have hvd : cw_vd m q := cw_kr_big h0 hq how
    have hr : cw_rv E q = .ref (cw_ad E q) := cw_kr_nz (L := L) (m := m) (by omega)
    obtain ⟨cell, q1, q2, q3, q4⟩ := cw_obj J.1 hvd ht htg
    obtain ⟨hSl, hfc, kC, hkC, hkind⟩ := hKV.1.1 t _ (cw_clsat ht)
    obtain ⟨cf, kf, fi, f, hi, hsl⟩ := hSl k hk
    have hlay := u_lays hts (cw_uws ht) hk
    have hst := (u_facts hfc hkC hlay hi).1
    have hap := va_apart (own := cw_cn t) (D := E.1) hts (cw_uws ht) (cw_ty t) (cw_tyok ht) (cw_nmok ht) hKV.1 (cw_clsat ht)
    have hr0 : cw_fld t k = 0 → cw_r w := fun z => by
      have hw' : cw_kk L m (cw_kv (cw_fld t k) w) := hw
      rw [z] at hw'; exact hw'
    have hnf := cw_nf (E := E) h0 (ty := cw_ty t k) (a := cw_fld t k) (b := (cw_fk (cw_ty t k)).2) (v := w) rfl hr0 hok (cw_fk3 t ht k hk) (cw_fk4 t ht k hk)
    have hfit := u_fits hfc hkC hkind hlay hi (cw_tyok ht k hk) hnf.1 hnf.2
    have fin : ∀ H' : Heap, H'[cw_ad E q]? = some (cell.setSlot f.slot (cw_tv E (cw_kv (cw_fld t k) w))) → H'.size = H.size → (∀ z, z ≠ cw_ad E q → H'[z]? = H[z]?) → W p l e R s mm args below meth c H' (locs ++ [⟨cw_ad E q, f.slot⟩]) (m (-1) 0 - mE (-1) 0).toNat (m (-1) 1 - mE (-1) 1).toNat Z (F0 mm (pc + 3) LS (s0.map (cw_tv E))) := by
      intro H' e1 e2 e3
      rw [hsl] at e1
      exact cw_put_go J hgo hK1 hvd (cw_rep_field J.1 hvd ht htg hk e2 e3 hap q1 e1 hw) e2 e3 (fun z hz => J.2.2.2.1 z (List.mem_cons_of_mem _ (List.mem_cons_of_mem _ hz)))
    show W p l e R s mm args below meth c H locs (m (-1) 0 - mE (-1) 0).toNat (m (-1) 1 - mE (-1) 1).toNat Z (F0 mm pc LS (cw_tv E (cw_kv (cw_fld t k) w) :: cw_rv E q :: s0.map (cw_tv E)))
    rw [hr]
    have hlt : f.slot < cell.slots.size := by rw [hsl]; exact k2_hasslot (q4 k hk)
    rcases hl with ⟨hl, hf | ⟨hf1, hf2⟩⟩ | ⟨hl, hf⟩
    · have hlay2 := hts _ (cw_uws ht _ (u_in_lay hk))
      unfold u_lay at hlay2
      rw [if_neg (by rw [hf]; decide)] at hlay2
      have h6 := u_store hfc hkC hkind hlay2 hi (cw_tyok ht k hk) hnf.1 hnf.2
      exact W.putK hx hb (f := f) ⟨hown, hts _ hl, ⟨_, _, _, hi⟩, hst⟩ (by rw [q2]; exact h6) q1 q3 hlt rfl rfl hd fin
    · by_cases hff : (cw_TT t k).2.2.2 = true
      · have hlay2 := hts _ (cw_uws ht _ (u_in_lay hk))
        unfold u_lay at hlay2
        rw [if_pos hff] at hlay2
        have hcf : mm.cls = cf := by
          obtain ⟨_, _, c', _, _, _, -, -, hf', -, -, -, hown2, -⟩ := Cond.laysFinal_spec hlay2
          have e1 : c' = cf := by have := hi.symm.trans hf'; simp at this; exact this.1.symm
          rw [cw_own1 ht k hk, ← hf2] at hown2
          rw [← e1]; exact Option.some.inj (hown.symm.trans hown2)
        exact W.putFinK hx hb hown (hts _ hl) hi hst hcf (hin hf1) (by rw [q2]; exact hfit) q1 q3 hlt rfl rfl hd fin
      · have hlay2 := hts _ (cw_uws ht _ (u_in_lay hk))
        unfold u_lay at hlay2
        rw [if_neg hff] at hlay2
        have h6 := u_store hfc hkC hkind hlay2 hi (cw_tyok ht k hk) hnf.1 hnf.2
        exact W.putK hx hb (f := f) ⟨hown, hts _ hl, ⟨_, _, _, hi⟩, hst⟩ (by rw [q2]; exact h6) q1 q3 hlt rfl rfl hd fin
    · have hlay2 := hts _ (cw_uws ht _ (u_in_lay hk))
      unfold u_lay at hlay2
      rw [if_neg (by rw [hf]; decide)] at hlay2
      have h6 := u_store hfc hkC hkind hlay2 hi (cw_tyok ht k hk) hnf.1 hnf.2
      exact va_WputK hx hb (f := f) hown (va_Nw.use rfl (hKV.2.1 _ hl)) hi hst (by rw [q2]; exact h6) q1 q3 hlt rfl rfl hd fin
  have hf3 : cw_fld t k < 3 := cw_fk3 t ht k hk
  have hfl : cw_fld t k = (cw_fk (cw_ty t k)).1 := rfl
  rw [hab] at hfl
  have hfl : cw_fld t k = a := hfl
  have hb2 : (cw_fk (cw_ty t k)).2 = b := by rw [hab]
  match a, hfl, h with
  | 0, hfl, h =>
    obtain ⟨w, s1, rfl, h⟩ := cw_p1_inv h
    obtain ⟨q, s0, rfl, h⟩ := cw_r1_inv h
    match b, hb2, h with
    | 0, hb2, h =>
      obtain ⟨⟨g1, g2⟩, h⟩ := h
      exact core q w s0 (by rw [hfl]; rfl) g1 g2 (fun _ => by rw [hb2]; trivial) h
    | b + 1, hb2, h =>
      obtain ⟨⟨g1, g2, g3⟩, h⟩ := h
      exact core q w s0 (by rw [hfl]; rfl) g1 g2 (fun _ => by rw [hb2]; exact g3) h
  | 1, hfl, h =>
    obtain ⟨w, s1, rfl, h⟩ := cw_l1_inv h
    obtain ⟨q, s0, rfl, h⟩ := cw_r1_inv h
    obtain ⟨⟨g1, g2⟩, h⟩ := h
    exact core q w s0 (by rw [hfl]; rfl) g1 g2 (fun z => by rw [hfl] at z; cases z) h
  | 2, hfl, h =>
    obtain ⟨w, s1, rfl, h⟩ := cw_r1_inv h
    obtain ⟨q, s0, rfl, h⟩ := cw_r1_inv h
    obtain ⟨⟨g1, g2⟩, h⟩ := h
    exact core q w s0 (by rw [hfl]; rfl) g1 g2 (fun z => by rw [hfl] at z; cases z) h
  | a + 3, hfl, h => omega
end CWA
