/-! One step of the abstract machine, carried over to the JVM: calls and copies. -/
/-- the room of a method that is called at most so deep -/
def cw_rm (d : Nat) (m m' : cw_M) : Room := { frames := d + 1, cells := (m' (-1) 0 - m (-1) 0).toNat, slots := (m' (-1) 1 - m (-1) 1).toNat, locals := 64 * (d + 1) }
def cw_ws (y : Nat) : List Cond := Cond.code (cw_nm y) (cw_by y) (cw_ml y) (cw_rtt y) :: cw_T
theorem cw_ws_good {y : Nat} (h1 : 1 ≤ y) (h2 : y < 269) : GoodIn cw_T (cw_ws y) := by
  intro w hw
  rcases List.mem_cons.mp hw with rfl | hw
  · exact ⟨cw_cow y h1 h2, cw_T_good (cw_cow y h1 h2)⟩
  · exact ⟨hw, cw_T_good hw⟩
section CWC
variable {p : Program} {l : Launch} {e : Env} {R : Room} {s : State} {mm : MethodId} {args : Array Value} {below : List Frame} {meth : Method} {c : Code} {Z : State → Prop} {E : cw_E} {L : Nat} {m0 mE mF : cw_M} {nL u : Nat}
variable {K : Nat → List cw_V → List cw_V → cw_M → Prop} {C : Nat → List cw_V → cw_M → (Option cw_V → cw_M → Prop) → Prop} {Q : Option cw_V → cw_M → Prop} {ls st : List cw_V} {m : cw_M} {pc len a b d : Nat} {x y : Int}
/-- what is known of a callee -/
def cw_CH (l : Launch) (E : cw_E) (L : Nat) (m0 : cw_M) (d : Nat) (C : Nat → List cw_V → cw_M → (Option cw_V → cw_M → Prop) → Prop) : Prop :=
  ∀ (y : Nat) (as : List cw_V) (m : cw_M) (Q' : Option cw_V → cw_M → Prop), 1 ≤ y → y < 269 → cw_cs as ≤ cw_ml y → C y as m Q' → ∃ (r : Option cw_V) (m' : cw_M), Q' r m' ∧ cw_lm m m' ∧ ∃ d', d = d' + 1 ∧ Met l (cw_nm y) (cw_ws y) (cw_rm d' m m') (cw_Pc E L m0 as m) (cw_Qc E L m0 r m') (m' (-1) 0 - m (-1) 0).toNat (m' (-1) 1 - m (-1) 1).toNat (cw_AA E)
theorem cw_pre (hKV : cw_KV E s) (hKH : cw_KH E L m0 s s.heap) {H : Heap} {locs : List Loc} {LS : Array Slot} {as : List cw_V} (J : cw_J E L m0 s nL mE ls st m H locs LS) (ha : ∀ w ∈ as, cw_kk L m w) : ∀ U : State, U.heap = H → s.WarmedH U.vm → cw_Pc E L m0 as m (as.map (cw_tv E)).toArray U :=
  fun U hU hW => ⟨rfl, cw_KV_warm hW hKV, cw_KH_moved hW.alike (by rw [hU]; exact J.2.1.2.1) hKH, by rw [hU]; exact J.1, ha⟩
theorem cw_okm_l {o idx k : Nat} (h : cw_okm o idx k a b y = true) : (cw_kn a = k ∧ b = cw_np a + (bif k == 0 then 0 else 1) ∧ y = ((cw_ml a : Nat) : Int)) ∧ (Cond.methodLink (cw_cn o) idx (cw_nm a) ∈ cw_T ∨ Cond.methodLinkNest (cw_cn o) idx (cw_nm a) "CommaWill" ∈ cw_NW) := by
  unfold cw_okm at h
  simp only [Bool.and_eq_true, Bool.or_eq_true, decide_eq_true_eq, beq_iff_eq] at h
  obtain ⟨⟨⟨⟨h1, h2⟩, h3⟩, h4⟩, h5⟩ := h
  refine ⟨⟨h3, h4, h2⟩, ?_⟩
  rcases h5 with h5 | h5
  · obtain ⟨z, hz, h⟩ := List.any_eq_true.mp h5
    have h : z.2 = (o, idx, a) := by simpa using h
    have g := cw_LM_ok z hz
    rw [h] at g
    exact Or.inl (cw_ix g rfl)
  · obtain ⟨z, hz, h⟩ := List.any_eq_true.mp h5
    have h : z.2 = (o, idx, a) := by simpa using h
    refine Or.inr (List.mem_append_right _ (List.mem_append_left _ (List.mem_map.mpr ⟨z, hz, ?_⟩)))
    rw [h]
theorem si_invs (X : cw_X p s mm args meth c E L m0 nL u) {n : Nat} (hd : decode (cw_by u) pc = .ok (.invokestatic n, 3)) (hok : cw_okm (cw_oc u) n 0 a b y = true) (hR : (mF (-1) 0 - mE (-1) 0).toNat ≤ R.cells ∧ (mF (-1) 1 - mE (-1) 1).toNat ≤ R.slots) (hfr : d + 1 ≤ R.frames ∧ 64 * (d + 1) ≤ R.locals) (hch : cw_CH l E L m0 d C) (hmono : ∀ pc ls st m, K pc ls st m → cw_lm m mF)
    (hgo : ∀ pc ls st m, K pc ls st m → cw_WW p l e R s mm args below meth c Z E L m0 mE nL pc ls st m) (h : cw_G K C Q ls m (cw_stp (pc, 3, .invokestatic n, a, b, x, y) ls st m)) : cw_WW p l e R s mm args below meth c Z E L m0 mE nL pc ls st m := by
  obtain ⟨hx, hb, hml, hrt, hlk, hown, hts, hKV, hKH, h0, hin, hbs⟩ := X
  obtain ⟨a1, a2⟩ := cw_okm_r hok
  obtain ⟨⟨hkn, hb1, hy1⟩, hlink⟩ := cw_okm_l hok
  obtain ⟨k, rfl⟩ : ∃ k, a = k + 1 := ⟨a - 1, by omega⟩
  have h : cw_G K C Q ls m (cw_pn b st [] fun as s => bif Nat.ble (cw_cs s) 8 && Nat.ble (cw_cs as) y.toNat then cw_cl (k + 1) as (pc + 3) s else none) := h
  obtain ⟨as, s0, rfl, hlen, h⟩ := cw_pn_inv h
  rw [List.append_nil] at h
  obtain ⟨hbb, h⟩ := cw_bif_inv h
  rw [Bool.and_eq_true] at hbb
  have hcs := Nat.le_of_ble_eq_true hbb.1
  have hcas := Nat.le_of_ble_eq_true hbb.2
  rw [hy1, Int.toNat_natCast] at hcas
  obtain ⟨r, m', hK, hlm, d', rfl, hM⟩ := hch (k + 1) as m _ a1 a2 (by omega) h
  intro H locs LS J
  have ha : ∀ w ∈ as, cw_kk L m w := fun w hw => J.2.2.2.1 w (List.mem_append_left _ (List.mem_reverse.mpr hw))
  have hs : ∀ w ∈ s0, cw_kk L m w := fun w hw => J.2.2.2.1 w (List.mem_append_right _ hw)
  obtain ⟨l1, l2, l3, l4⟩ := hlm J.1.1.1
  obtain ⟨n1, n2, n3, n4⟩ := hmono _ _ _ _ hK l1
  have hE := J.2.2.2.2.2
  obtain ⟨f1, f2, f3, f4, f5, f6⟩ := cw_mfacts a1 a2
  have hst : (as.reverse ++ s0).map (cw_tv E) = (as.map (cw_tv E)).reverse ++ s0.map (cw_tv E) := by simp
  have hroom : (cw_rm d' m m').frames + 1 ≤ R.frames ∧ 8 + (cw_ml (k + 1) + 11) + (cw_rm d' m m').locals ≤ R.locals := ⟨hfr.1, by show 8 + (cw_ml (k + 1) + 11) + 64 * (d' + 1) ≤ R.locals; omega⟩
  have hcs2 : 2 * (F0 mm pc LS ((as.reverse ++ s0).map (cw_tv E))).monitorRoom + ((s0.map (cw_tv E)).map fun v => v.category).sum ≤ 8 := lv_room (by rw [cw_csum h0]; exact hcs)
  have hnp : (as.map (cw_tv E)).length = cw_np (k + 1) := by rw [List.length_map, hlen, hb1]; rfl
  refine cw_call_go (as := []) J hgo hK hs ⟨l2, l3⟩ l4 (av := (as.map (cw_tv E)).toArray) ?_
  rcases hlink with hl | hl
  · exact va_runS ⟨hx, hb, hml, hown, hts⟩ hM ⟨callB_of (cw_np (k + 1)) hts (cw_ws_good a1 a2) rfl rfl rfl (hts _ f1) (hts _ hl) ⟨f4.1, f4.2, f5⟩ hroom, hts _ (cw_static a1 a2 hkn)⟩ ⟨cw_Pc_blind, cw_pre hKV hKH J ha⟩ rfl hnp J.2.2.1.1.1 hst hcs2 hd ⟨by have := hR.1; omega, by have := hR.2; omega⟩
  · exact va_runSN ⟨hx, hb, hml, hown, hts⟩ hM ⟨va_cnB (cw_np (k + 1)) hts (cw_ws_good a1 a2) rfl rfl rfl (hKV.2.1 _ hl) (hts _ f1) ⟨f4.1, f4.2, f5⟩ hroom, hts _ (cw_static a1 a2 hkn), trivial⟩ ⟨cw_Pc_blind, cw_pre hKV hKH J ha⟩ rfl hnp J.2.2.1.1.1 hst hcs2 hd ⟨by have := hR.1; omega, by have := hR.2; omega⟩
/-- a receiver of ours, or a text -/
theorem cw_recv (hKV : cw_KV E s) (hKH : cw_KH E L m0 s s.heap) (h0 : cw_m0 E L m0) {H : Heap} {locs : List Loc} {LS : Array Slot} {q : Int} (J : cw_J E L m0 s nL mE ls st m H locs LS) (hq : cw_kr L m q) (htg : cw_tg q = x) (hx : x = 12 ∧ cw_oc a = 12 ∨ (1 ≤ x ∧ x ≤ 11) ∧ cw_oc a = x.toNat - 1) : ∃ cellB : Cell, H[cw_ad E q]? = some cellB ∧ cellB.vm.isStatics = false ∧ s.vm.findClass (cw_cn (cw_oc a)) = some cellB.cls := by
  rcases hx with ⟨rfl, ho⟩ | ⟨hx, ho⟩
  · rw [ho]
    rcases hq with rfl | hv | ⟨i, hi, rfl⟩ | ⟨w, hw, rfl⟩
    · have e : cw_tg 0 = 0 := by decide
      omega
    · rcases (J.1.2.1 q hv).1 with ⟨t', t1, t2, t3⟩ | ⟨t', t1, t2, t3⟩ <;> omega
    · obtain ⟨cell, g1, g2, g3, -⟩ := (hKH.2.2.2.2.2 i hi).1.kept J.2.1.2.1
      exact ⟨cell, g1, g2, g3⟩
    · have := (cw_ca_tg h0.2.2.2 hw).1; omega
  · have hv := cw_kr_own h0.2.2.2 hq htg (Or.inl hx)
    have ht : x.toNat - 1 < 11 := by omega
    obtain ⟨cell, g1, g2, g3, -⟩ := cw_obj (t := x.toNat - 1) J.1 hv ht (by omega)
    exact ⟨cell, g1, by rw [g3]; rfl, by rw [ho, g2]; exact (hKV.1.1 _ _ (cw_clsat ht)).2.1⟩
theorem si_invv (X : cw_X p s mm args meth c E L m0 nL u) {n : Nat} (hd : decode (cw_by u) pc = .ok (.invokevirtual n, 3)) (hok : cw_okm (cw_oc u) n 1 a b y = true) (hxx : x = 12 ∧ cw_oc a = 12 ∨ (1 ≤ x ∧ x ≤ 11) ∧ cw_oc a = x.toNat - 1) (hnest : ∀ o idx y, Cond.methodLinkNest o idx y "CommaWill" ∈ cw_NW → y = cw_nm a → False) (hR : (mF (-1) 0 - mE (-1) 0).toNat ≤ R.cells ∧ (mF (-1) 1 - mE (-1) 1).toNat ≤ R.slots) (hfr : d + 1 ≤ R.frames ∧ 64 * (d + 1) ≤ R.locals) (hch : cw_CH l E L m0 d C) (hmono : ∀ pc ls st m, K pc ls st m → cw_lm m mF)
    (hgo : ∀ pc ls st m, K pc ls st m → cw_WW p l e R s mm args below meth c Z E L m0 mE nL pc ls st m) (h : cw_G K C Q ls m (cw_stp (pc, 3, .invokevirtual n, a, b, x, y) ls st m)) : cw_WW p l e R s mm args below meth c Z E L m0 mE nL pc ls st m := by
  obtain ⟨hx, hb, hml, hrt, hlk, hown, hts, hKV, hKH, h0, hin, hbs⟩ := X
  obtain ⟨a1, a2⟩ := cw_okm_r hok
  obtain ⟨⟨hkn, hb1, hy1⟩, hlink⟩ := cw_okm_l hok
  have h : cw_G K C Q ls m (cw_pn b st [] fun as s => bif Nat.ble (cw_cs s) 8 && Nat.ble (cw_cs as) y.toNat then (match as with
        | some (.inr (.inr c)) :: t => cw_cc (cw_tg c = x) a (vr c :: t) (pc + 3) s
        | _ => none) else none) := h
  obtain ⟨as, s0, rfl, hlen, h⟩ := cw_pn_inv h
  rw [List.append_nil] at h
  obtain ⟨hbb, h⟩ := cw_bif_inv h
  rw [Bool.and_eq_true] at hbb
  have hcs := Nat.le_of_ble_eq_true hbb.1
  have hcas := Nat.le_of_ble_eq_true hbb.2
  rw [hy1, Int.toNat_natCast] at hcas
  rcases as with _ | ⟨_ | z | z | q, t⟩
  · exact (h : False).elim
  · exact (h : False).elim
  · exact (h : False).elim
  · exact (h : False).elim
  obtain ⟨htg, h⟩ := h
  obtain ⟨r, m', hK, hlm, d', rfl, hM⟩ := hch a (vr q :: t) m _ a1 a2 hcas h
  intro H locs LS J
  have ha : ∀ w ∈ vr q :: t, cw_kk L m w := fun w hw => J.2.2.2.1 w (List.mem_append_left _ (List.mem_reverse.mpr hw))
  have hs : ∀ w ∈ s0, cw_kk L m w := fun w hw => J.2.2.2.1 w (List.mem_append_right _ hw)
  have hq : cw_kr L m q := ha _ List.mem_cons_self
  obtain ⟨l1, l2, l3, l4⟩ := hlm J.1.1.1
  obtain ⟨n1, n2, n3, n4⟩ := hmono _ _ _ _ hK l1
  have hE := J.2.2.2.2.2
  obtain ⟨f1, f2, f3, f4, f5, f6⟩ := cw_mfacts a1 a2
  have hrv : cw_tv E (vr q) = .ref (cw_ad E q) := cw_kr_nz (L := L) (m := m) (by rw [htg]; rcases hxx with z | z <;> omega)
  have hst : ((vr q :: t).reverse ++ s0).map (cw_tv E) = (t.map (cw_tv E)).reverse ++ .ref (cw_ad E q) :: s0.map (cw_tv E) := by
    rw [← hrv]; simp
  have hroom : (cw_rm d' m m').frames + 1 ≤ R.frames ∧ 8 + (cw_ml a + 11) + (cw_rm d' m m').locals ≤ R.locals := ⟨hfr.1, by show 8 + (cw_ml a + 11) + 64 * (d' + 1) ≤ R.locals; omega⟩
  have hcs2 : 2 * (F0 mm pc LS (((vr q :: t).reverse ++ s0).map (cw_tv E))).monitorRoom + ((s0.map (cw_tv E)).map fun v => v.category).sum ≤ 8 := lv_room (by rw [cw_csum h0]; exact hcs)
  have hnp : (t.map (cw_tv E)).length = cw_np a := by
    have : (vr q :: t).length = cw_np a + 1 := by rw [hlen, hb1]; rfl
    rw [List.length_map]; simpa using this
  have hav : (Value.ref (cw_ad E q) :: t.map (cw_tv E)).toArray = ((vr q :: t).map (cw_tv E)).toArray := by rw [List.map_cons, hrv]
  refine cw_call_go (as := []) J hgo hK hs ⟨l2, l3⟩ l4 (av := (Value.ref (cw_ad E q) :: t.map (cw_tv E)).toArray) ?_
  rcases hlink with hl | hl
  · have hin1 := cw_instm a1 a2 (by omega)
    exact va_runV ⟨hx, hb, hml, hown, hts⟩ hM ⟨callB_of (cw_np a) hts (cw_ws_good a1 a2) rfl rfl rfl (hts _ f1) (hts _ hl) ⟨f4.1, f4.2, f5⟩ hroom, hts _ hin1.1, hts _ (cw_sel a1 a2 hkn)⟩ ⟨cw_Pc_blind, by rw [f2]; exact cw_recv hKV hKH h0 J hq htg hxx, by rw [hav]; exact cw_pre hKV hKH J ha⟩ rfl hnp J.2.2.1.1.1 hst hcs2 hd ⟨by have := hR.1; omega, by have := hR.2; omega⟩
  · exact (hnest _ _ _ hl rfl).elim
theorem si_invi (X : cw_X p s mm args meth c E L m0 nL u) {n : Nat} (hd : decode (cw_by u) pc = .ok (.invokespecial n, 3)) (hok : cw_okm (cw_oc u) n 2 a b y = true) (hxx : (1 ≤ x ∧ x ≤ 11) ∧ cw_oc a = x.toNat - 1) (hR : (mF (-1) 0 - mE (-1) 0).toNat ≤ R.cells ∧ (mF (-1) 1 - mE (-1) 1).toNat ≤ R.slots) (hfr : d + 1 ≤ R.frames ∧ 64 * (d + 1) ≤ R.locals) (hch : cw_CH l E L m0 d C) (hmono : ∀ pc ls st m, K pc ls st m → cw_lm m mF)
    (hgo : ∀ pc ls st m, K pc ls st m → cw_WW p l e R s mm args below meth c Z E L m0 mE nL pc ls st m) (h : cw_G K C Q ls m (cw_stp (pc, 3, .invokespecial n, a, b, x, y) ls st m)) (hret : cw_rtt a = none) : cw_WW p l e R s mm args below meth c Z E L m0 mE nL pc ls st m := by
  obtain ⟨hx, hb, hml, hrt, hlk, hown, hts, hKV, hKH, h0, hin, hbs⟩ := X
  obtain ⟨a1, a2⟩ := cw_okm_r hok
  obtain ⟨⟨hkn, hb1, hy1⟩, hlink⟩ := cw_okm_l hok
  obtain ⟨k, rfl⟩ : ∃ k, a = k + 1 := ⟨a - 1, by omega⟩
  have h : cw_G K C Q ls m (cw_pn b st [] fun as s => bif Nat.ble (cw_cs s) 8 && Nat.ble (cw_cs as) y.toNat then (match as with
        | some (.inr (.inr c)) :: t => cw_cc (cw_tg c = x) (k + 1) (vr c :: t) (pc + 3) s
        | _ => none) else none) := h
  obtain ⟨as, s0, rfl, hlen, h⟩ := cw_pn_inv h
  rw [List.append_nil] at h
  obtain ⟨hbb, h⟩ := cw_bif_inv h
  rw [Bool.and_eq_true] at hbb
  have hcs := Nat.le_of_ble_eq_true hbb.1
  have hcas := Nat.le_of_ble_eq_true hbb.2
  rw [hy1, Int.toNat_natCast] at hcas
  rcases as with _ | ⟨_ | z | z | q, t⟩
  · exact (h : False).elim
  · exact (h : False).elim
  · exact (h : False).elim
  · exact (h : False).elim
  obtain ⟨htg, h⟩ := h
  obtain ⟨r, m', hK, hlm, d', rfl, hM⟩ := hch (k + 1) (vr q :: t) m _ a1 a2 hcas h
  intro H locs LS J
  have ha : ∀ w ∈ vr q :: t, cw_kk L m w := fun w hw => J.2.2.2.1 w (List.mem_append_left _ (List.mem_reverse.mpr hw))
  have hs : ∀ w ∈ s0, cw_kk L m w := fun w hw => J.2.2.2.1 w (List.mem_append_right _ hw)
  obtain ⟨l1, l2, l3, l4⟩ := hlm J.1.1.1
  obtain ⟨n1, n2, n3, n4⟩ := hmono _ _ _ _ hK l1
  have hE := J.2.2.2.2.2
  obtain ⟨f1, f2, f3, f4, f5, f6⟩ := cw_mfacts a1 a2
  have hrv : cw_tv E (vr q) = .ref (cw_ad E q) := cw_kr_nz (L := L) (m := m) (by rw [htg]; omega)
  have hst : ((vr q :: t).reverse ++ s0).map (cw_tv E) = (t.map (cw_tv E)).reverse ++ .ref (cw_ad E q) :: s0.map (cw_tv E) := by
    rw [← hrv]; simp
  have hroom : (cw_rm d' m m').frames + 1 ≤ R.frames ∧ 8 + (cw_ml (k + 1) + 11) + (cw_rm d' m m').locals ≤ R.locals := ⟨hfr.1, by show 8 + (cw_ml (k + 1) + 11) + 64 * (d' + 1) ≤ R.locals; omega⟩
  have hcs2 : 2 * (F0 mm pc LS (((vr q :: t).reverse ++ s0).map (cw_tv E))).monitorRoom + ((s0.map (cw_tv E)).map fun v => v.category).sum ≤ 8 := lv_room (by rw [cw_csum h0]; exact hcs)
  have hnp : (t.map (cw_tv E)).length = cw_np (k + 1) := by
    have : (vr q :: t).length = cw_np (k + 1) + 1 := by rw [hlen, hb1]; rfl
    rw [List.length_map]; simpa using this
  have hav : (Value.ref (cw_ad E q) :: t.map (cw_tv E)).toArray = ((vr q :: t).map (cw_tv E)).toArray := by rw [List.map_cons, hrv]
  have hin1 := cw_instm a1 a2 (by omega)
  have hws : cw_ws (k + 1) = Cond.code (cw_nm (k + 1)) (cw_by (k + 1)) (cw_ml (k + 1)) none :: cw_T := by unfold cw_ws; rw [hret]
  refine cw_call_go (as := []) J hgo hK hs ⟨l2, l3⟩ l4 (av := (Value.ref (cw_ad E q) :: t.map (cw_tv E)).toArray) ?_
  rcases hlink with hl | hl
  · exact va_runI ⟨hx, hb, hml, hown, hts⟩ hM ⟨callB_of (cw_np (k + 1)) hts (cw_ws_good a1 a2) hws rfl rfl (hts _ f1) (hts _ hl) ⟨f4.1, f4.2, f5⟩ hroom, hin1.2 hkn, hts _ hin1.1⟩ ⟨cw_Pc_blind, by rw [hav]; exact cw_pre hKV hKH J ha⟩ rfl hnp J.2.2.1.1.1 hst hcs2 hd ⟨by have := hR.1; omega, by have := hR.2; omega⟩
  · exact va_runIN ⟨hx, hb, hml, hown, hts⟩ hM ⟨va_cnB (cw_np (k + 1)) hts (cw_ws_good a1 a2) hws rfl rfl (hKV.2.1 _ hl) (hts _ f1) ⟨f4.1, f4.2, f5⟩ hroom, hin1.2 hkn, hts _ hin1.1⟩ ⟨cw_Pc_blind, by rw [hav]; exact cw_pre hKV hKH J ha⟩ rfl hnp J.2.2.1.1.1 hst hcs2 hd ⟨by have := hR.1; omega, by have := hR.2; omega⟩
end CWC
