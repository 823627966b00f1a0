/-! A copy of a stretch of ints, carried over to the JVM. -/
section CWY
variable {p : Program} {l : Launch} {e : Env} {R : Room} {s : State} {mm : MethodId} {args : Array Value} {below : List Frame} {meth : Method} {c : Code} {Z : State → Prop} {E : cw_E} {L : Nat} {m0 mE mF : cw_M} {nL u : Nat}
variable {K : Nat → List cw_V → List cw_V → cw_M → Prop} {C : Nat → List cw_V → cw_M → (Option cw_V → cw_M → Prop) → Prop} {Q : Option cw_V → cw_M → Prop} {ls st : List cw_V} {m : cw_M} {pc len a b d : Nat} {x y : Int}
theorem si_acopy (X : cw_X p s mm args meth c E L m0 nL u) {k : Nat} (hd : decode (cw_by u) pc = .ok (.invokestatic k, 3)) (hl : Cond.methodLink (cw_cn (cw_oc u)) k arraycopyName ∈ cw_T) (hfr : 1 ≤ R.frames ∧ 64 ≤ R.locals)
    (hgo : ∀ pc ls st m, K pc ls st m → cw_WW p l e R s mm args below meth c Z E L m0 mE nL pc ls st m) (h : cw_G K C Q ls m (cw_stp (pc, 3, .invokestatic k, 0, b, x, y) ls st m)) : cw_WW p l e R s mm args below meth c Z E L m0 mE nL pc ls st m := by
  obtain ⟨hx, hb, hml, hrt, hlk, hown, hts, hKV, hKH, h0, hin, hbs⟩ := X
  have hinv : ∃ (n dp f sp q : Int) (s0 : List cw_V), st = vi n :: vi dp :: vr f :: vi sp :: vr q :: s0 ∧ cw_G K C Q ls m (bif Nat.ble (cw_cs s0) 8 then cw_ck ((cw_tg q = 40 ∧ cw_tg f = 40 ∧ cw_own q ∧ cw_own f) ∧ (0 ≤ sp ∧ 0 ≤ dp ∧ 0 ≤ n) ∧ sp + n ≤ cw_ln q ∧ dp + n ≤ cw_ln f) (pc + 3) ls s0 (cw_cpy m q sp f dp n) else none) := by
    have h1 : cw_G K C Q ls m (match (generalizing := false) st with
        | some (.inl n) :: some (.inl dp) :: some (.inr (.inr d)) :: some (.inl sp) :: some (.inr (.inr c)) :: s => bif Nat.ble (cw_cs s) 8 then cw_ck ((cw_tg c = 40 ∧ cw_tg d = 40 ∧ cw_own c ∧ cw_own d) ∧ (0 ≤ sp ∧ 0 ≤ dp ∧ 0 ≤ n) ∧ sp + n ≤ cw_ln c ∧ dp + n ≤ cw_ln d) (pc + 3) ls s (cw_cpy m c sp d dp n) else none
        | _ => none) := h
    split at h1
    · exact ⟨_, _, _, _, _, _, rfl, h1⟩
    · exact (h1 : False).elim
  obtain ⟨n, dp, f, sp, q, s0, rfl, h1⟩ := hinv
  obtain ⟨hcs, h1⟩ := cw_bif_inv h1
  have hcs := Nat.le_of_ble_eq_true hcs
  obtain ⟨⟨⟨t1, t2, o1, o2⟩, ⟨p1, p2, p3⟩, b1, b2⟩, h1⟩ := h1
  intro H locs LS J
  have hm1 := fun w hw => J.2.2.2.1 w (List.mem_cons_of_mem _ hw)
  have hm2 := fun w hw => hm1 w (List.mem_cons_of_mem _ hw)
  have hm3 := fun w hw => hm2 w (List.mem_cons_of_mem _ hw)
  have hm4 := fun w hw => hm3 w (List.mem_cons_of_mem _ hw)
  have hf : cw_vd m f := cw_kr_big h0 (hm2 _ List.mem_cons_self) o2
  have hq : cw_vd m q := cw_kr_big h0 (hm4 _ List.mem_cons_self) o1
  have l1 : cw_ln q < 16384 := by unfold cw_ln; omega
  have l2 : cw_ln f < 16384 := by unfold cw_ln; omega
  have aq := cw_arr (t := 0) J.1 hq (by decide) t1
  have af := cw_arr (t := 0) J.1 hf (by decide) t2
  have e1 : (Int32.ofInt sp).toNatClampNeg = sp.toNat := cw_clp p1 (by omega)
  have e2 : (Int32.ofInt dp).toNatClampNeg = dp.toNat := cw_clp p2 (by omega)
  have e3 : (Int32.ofInt n).toNatClampNeg = n.toNat := cw_clp p3 (by omega)
  have hrq : cw_rv E q = .ref (cw_ad E q) := cw_kr_nz (L := L) (m := m) (by omega)
  have hrf : cw_rv E f = .ref (cw_ad E f) := cw_kr_nz (L := L) (m := m) (by omega)
  show W p l e R s mm args below meth c H locs (m (-1) 0 - mE (-1) 0).toNat (m (-1) 1 - mE (-1) 1).toNat Z (F0 mm pc LS (.int (Int32.ofInt n) :: .int (Int32.ofInt dp) :: cw_rv E f :: .int (Int32.ofInt sp) :: cw_rv E q :: s0.map (cw_tv E)))
  rw [hrq, hrf]
  intro T hT Y
  obtain ⟨-, k0, hk0, cm0, hkk0⟩ := cw_aat hKV.1 (t := 0) (by decide) 0 (fun _ => .null)
  obtain ⟨vm', X', step⟩ := Y.arraycopy hx hown (hts _ hl) (hts _ cw_ay_nat) (hts _ cw_ay_stat) (hts _ cw_ay_ini) (cs := arrV (E.2.1 0) (cw_ln q).toNat (fun j => cw_tv E (cw_kv (cw_ak 0) (m q j)))) (cd := arrV (E.2.1 0) (cw_ln f).toNat (fun j => cw_tv E (cw_kv (cw_ak 0) (m f j)))) (srcPos := Int32.ofInt sp) (destPos := Int32.ofInt dp) (n := Int32.ofInt n) (by rw [hT]; exact aq) (by rw [hT]; exact af)
    (fun _ z => by cases z) (fun _ z => by cases z) (fun z => by cases z) (fun z => by cases z) hk0 hk0 hkk0 hkk0 (by decide) (cw_nn p1 (by omega)) (cw_nn p2 (by omega)) (cw_nn p3 (by omega))
    (by rw [arrV_size, cw_ti ⟨by omega, by omega⟩, cw_ti ⟨by omega, by omega⟩]; omega)
    (by rw [arrV_size, cw_ti ⟨by omega, by omega⟩, cw_ti ⟨by omega, by omega⟩]; omega)
    (fun vm₁ _ i hi => by
      rw [e3] at hi
      rw [e1, Array.getD_eq_getD_getElem?, arrV_read _ _ (by omega)]
      exact ⟨rfl, trivial⟩)
    (g := F0 mm pc LS (.int (Int32.ofInt n) :: .int (Int32.ofInt dp) :: .ref (cw_ad E f) :: .int (Int32.ofInt sp) :: .ref (cw_ad E q) :: s0.map (cw_tv E))) rfl (by rw [hml]; exact J.2.2.1.1.1) rfl (by rw [hb]; exact hd) hfr.1
    (by
      show 2 * 0 + ((s0.map (cw_tv E)).map fun v => v.category).sum + (nativeFrameWords "java/lang/System" "arraycopy" 5 + 11) ≤ R.locals
      rw [cw_csum h0, show nativeFrameWords "java/lang/System" "arraycopy" 5 = 7 by decide +kernel]; omega)
  have hcop : copied (arrV (E.2.1 0) (cw_ln q).toNat (fun j => cw_tv E (cw_kv (cw_ak 0) (m q j)))) (arrV (E.2.1 0) (cw_ln f).toNat (fun j => cw_tv E (cw_kv (cw_ak 0) (m f j)))) (Int32.ofInt sp) (Int32.ofInt dp) (Int32.ofInt n) = arrV (E.2.1 0) (cw_ln f).toNat (fun j => cw_tv E (cw_kv (cw_ak 0) (cw_cpy m q sp f dp n f j))) := by
    have hv := va_copied (fun z : Int => Value.int (Int32.ofInt z)) (E.2.1 0) (E.2.1 0) (n0 := (cw_ln q).toNat) (n1 := (cw_ln f).toNat) (sp := sp.toNat) (dp := dp.toNat) (n := n.toNat) (fun j => m q j) (fun j => m f j) (by omega)
    unfold copied
    rw [e1, e2, e3]
    refine Eq.trans hv ?_
    congr 1
    funext j
    show Value.int (Int32.ofInt (va_cpy (fun j : Nat => m q j) (fun j : Nat => m f j) sp.toNat dp.toNat n.toNat j)) = Value.int (Int32.ofInt (cw_cpy m q sp f dp n f j))
    congr 2
    unfold va_cpy cw_cpy
    by_cases hj : dp.toNat ≤ j ∧ j < dp.toNat + n.toNat
    · rw [if_pos hj, if_pos ⟨rfl, by omega, by omega⟩]
      show m q ((sp.toNat + (j - dp.toNat) : Nat) : Int) = m q (sp + ((j : Int) - dp))
      congr 1
      omega
    · rw [if_neg hj, if_neg (fun z => hj ⟨by omega, by omega⟩)]
  rw [hcop] at X' step
  have hlt : cw_ad E f < H.size := (Array.getElem?_eq_some_iff.mp af).1
  have hheap : ((T.setVm vm').setCell (cw_ad E f) (arrV (E.2.1 0) (cw_ln f).toNat (fun j => cw_tv E (cw_kv (cw_ak 0) (cw_cpy m q sp f dp n f j))))).heap = H.setIfInBounds (cw_ad E f) (arrV (E.2.1 0) (cw_ln f).toNat (fun j => cw_tv E (cw_kv (cw_ak 0) (cw_cpy m q sp f dp n f j)))) := by rw [← hT]; rfl
  have oq : ∀ z : Nat, z ≠ cw_ad E f → (H.setIfInBounds (cw_ad E f) (arrV (E.2.1 0) (cw_ln f).toNat (fun j => cw_tv E (cw_kv (cw_ak 0) (cw_cpy m q sp f dp n f j)))))[z]? = H[z]? := fun z hz => by rw [Array.getElem?_setIfInBounds_ne (fun w => hz w.symm)]
  have hf0 := hf.1
  have r1 : cw_cpy m q sp f dp n (-1) = m (-1) := cw_cpy_ne (by omega)
  have r2 : cw_cpy m q sp f dp n (-2) = m (-2) := cw_cpy_ne (by omega)
  have hrep : cw_rep E L m0 (cw_cpy m q sp f dp n) (H.setIfInBounds (cw_ad E f) (arrV (E.2.1 0) (cw_ln f).toNat (fun j => cw_tv E (cw_kv (cw_ak 0) (cw_cpy m q sp f dp n f j))))) := by
    refine cw_rep_upd J.1 hf (fun w hw => cw_cpy_ne hw) (by simp) oq (Or.inr ⟨0, by decide, t2, ?_⟩) ⟨fun t z1 z2 => by omega, fun t z1 z2 j hj => ?_⟩
    · rw [Array.getElem?_setIfInBounds_self_of_lt hlt]
    · have : t = 0 := by omega
      subst this
      refine (cw_kk_of r1 r2 _).mpr ?_
      unfold cw_cpy
      by_cases hj2 : f = f ∧ dp ≤ (j : Int) ∧ (j : Int) < dp + n
      · rw [if_pos hj2]
        have := (J.1.2.1 q hq).2.2 0 (by decide) t1 (sp + ((j : Int) - dp)).toNat (by omega)
        rw [show (((sp + ((j : Int) - dp)).toNat : Nat) : Int) = sp + ((j : Int) - dp) by omega] at this
        exact this
      · rw [if_neg hj2]
        exact (J.1.2.1 f hf).2.2 0 (by decide) t2 j hj
  have kk := hgo _ _ _ _ h1 _ (locs ++ (((arrV (E.2.1 0) (cw_ln q).toNat (fun j => cw_tv E (cw_kv (cw_ak 0) (m q j)))).stretch (Int32.ofInt sp).toNatClampNeg (Int32.ofInt n).toNatClampNeg).zipIdx.map fun w => (⟨cw_ad E f, (Int32.ofInt dp).toNatClampNeg + w.2⟩ : Loc))) LS ⟨hrep, ⟨by simpa using J.2.1.1, fun z g1 g2 => (oq z (fun w => g2 (by rw [w, cw_ad_own hf0]; exact Nat.le_add_right _ _))).trans (J.2.1.2.1 z g1 g2), fun w hw => by
      rcases List.mem_append.mp hw with g | g
      · exact J.2.1.2.2 w g
      · obtain ⟨v, -, hv⟩ := List.mem_map.mp g
        rw [← hv]
        show E.2.2.1 ≤ cw_ad E f
        rw [cw_ad_own hf0]; exact Nat.le_add_right _ _⟩, J.2.2.1, fun v hv => (cw_kk_of r1 r2 v).mpr (hm4 v (List.mem_cons_of_mem _ hv)), fun i v hv => (cw_kk_of r1 r2 _).mpr (J.2.2.2.2.1 i v hv), by rw [r1]; exact J.2.2.2.2.2⟩
  rw [r1] at kk
  obtain ⟨t, g1, g2⟩ := kk _ hheap X'
  exact ⟨t, step t g1, g2⟩
end CWY
