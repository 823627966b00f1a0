/-! One step of the abstract machine, carried over to the JVM: fields, arrays, new cells, constants. -/
theorem cw_fk3 : ∀ t : Nat, t < 11 → ∀ k : Nat, k < cw_N t → (cw_fk (cw_ty t k)).1 < 3 := by decide +kernel
theorem cw_dv {E : cw_E} {ty : FieldType} (h : (cw_fk ty).1 < 3) : defaultValue ty = cw_tv E (cw_kv (cw_fk ty).1 0) := by
  cases ty <;> first | rfl | exact absurd h (by decide)
theorem cw_nf {E : cw_E} {L : Nat} {m0 : cw_M} (h0 : cw_m0 E L m0) {ty : FieldType} {a b : Nat} {v : Int} (h : cw_fk ty = (a, b)) (hr : a = 0 → cw_r v) (hb : a = 0 → cw_ok b v) (ha : a < 3) (hb4 : b < 2 ∨ b = 3) : narrow ty (cw_tv E (cw_kv a v)) = cw_tv E (cw_kv a v) ∧ fits ty (cw_tv E (cw_kv a v)) = true := by
  have hint : ∀ lo hi : Int, cw_r v → cw_r lo → cw_r hi → lo ≤ v → v ≤ hi → Int32.ofInt lo ≤ Int32.ofInt v ∧ Int32.ofInt v ≤ Int32.ofInt hi := fun lo hi r1 r2 r3 q1 q2 => ⟨(cw_le r2 r1).mpr q1, (cw_le r1 r3).mpr q2⟩
  cases ty with
  | int => cases h; exact ⟨rfl, rfl⟩
  | boolean =>
    cases h
    rcases hb rfl with rfl | rfl <;> exact ⟨rfl, rfl⟩
  | byte =>
    cases h
    have hr := hr rfl
    have hb : -128 ≤ v ∧ v < 128 := hb rfl
    refine ⟨?_, ?_⟩
    · show Value.int (Int32.ofInt v).toInt8.toInt32 = Value.int (Int32.ofInt v)
      rw [cw_i2b_ok, show cw_i2b v = v by unfold cw_i2b; omega]
    · show ((-128 : Int32) ≤ Int32.ofInt v && Int32.ofInt v ≤ 127) = true
      have := hint (-128) 127 hr ⟨by decide, by decide⟩ ⟨by decide, by decide⟩ (by omega) (by omega)
      simp only [Bool.and_eq_true, decide_eq_true_eq]
      exact this
  | char => cases h; omega
  | short => cases h; omega
  | long => cases h; exact ⟨rfl, rfl⟩
  | object C =>
    cases h
    rcases cw_rv_or h0 v with q | ⟨z, q⟩
    · show narrow _ (cw_rv E v) = cw_rv E v ∧ fits _ (cw_rv E v) = true
      rw [q]; exact ⟨rfl, rfl⟩
    · show narrow _ (cw_rv E v) = cw_rv E v ∧ fits _ (cw_rv E v) = true
      rw [q]; exact ⟨rfl, rfl⟩
  | array C =>
    cases h
    rcases cw_rv_or h0 v with q | ⟨z, q⟩
    · show narrow _ (cw_rv E v) = cw_rv E v ∧ fits _ (cw_rv E v) = true
      rw [q]; exact ⟨rfl, rfl⟩
    · show narrow _ (cw_rv E v) = cw_rv E v ∧ fits _ (cw_rv E v) = true
      rw [q]; exact ⟨rfl, rfl⟩
  | _ => cases h; omega
section CWH
variable {p : Program} {l : Launch} {e : Env} {R : Room} {s : State} {mm : MethodId} {args : Array Value} {below : List Frame} {meth : Method} {c : Code} {Z : State → Prop} {E : cw_E} {L : Nat} {m0 mE : cw_M} {nL u : Nat}
variable {K : Nat → List cw_V → List cw_V → cw_M → Prop} {C : Nat → List cw_V → cw_M → (Option cw_V → cw_M → Prop) → Prop} {Q : Option cw_V → cw_M → Prop} {ls st : List cw_V} {m : cw_M} {pc len a b : Nat} {x y : Int}
/-- an object of ours, by its tag -/
theorem cw_obj {H : Heap} {q : Int} {t : Nat} (h : cw_rep E L m0 m H) (hv : cw_vd m q) (ht : t < 11) (htg : cw_tg q = (t : Int) + 1) : t_OB (cw_ad E q) (E.1.1 t) (cw_N t) (E.1.2 t) H (fun k => cw_tv E (cw_kv (cw_fld t k) (m q k))) := by
  rcases (h.2.1 q hv).1 with ⟨t', t1, t2, t3⟩ | ⟨t', t1, t2, t3⟩
  · have : t' = t := by omega
    subst this; exact t3
  · omega
theorem cw_arr {H : Heap} {q : Int} {t : Nat} (h : cw_rep E L m0 m H) (hv : cw_vd m q) (ht : t < 6) (htg : cw_tg q = (t : Int) + 40) : H[cw_ad E q]? = some (arrV (E.2.1 t) (cw_ln q).toNat (fun j => cw_tv E (cw_kv (cw_ak t) (m q j)))) := by
  rcases (h.2.1 q hv).1 with ⟨t', t1, t2, t3⟩ | ⟨t', t1, t2, t3⟩
  · omega
  · have : t' = t := by omega
    subst this; exact t3
theorem cw_aat (hK : va_K E.1 cw_cls (cw_tys E.2.1) s) {t : Nat} (ht : t < 6) : ArrOfT s (E.2.1 t) (cw_aty t) := by
  match t, ht with
  | 0, _ => exact (hK.2 0 _ rfl).1
  | 1, _ => exact (hK.2 1 _ rfl).1
  | 2, _ => exact (hK.2 2 _ rfl).1
  | 3, _ => exact (hK.2 3 _ rfl).1
  | 4, _ => exact (hK.2 4 _ rfl).1
  | 5, _ => exact (hK.2 5 _ rfl).1
/-- any array that may be read -/
theorem cw_read {H : Heap} {locs : List Loc} {q : Int} {t : Nat} (hKV : cw_KV E s) (hKH : cw_KH E L m0 s s.heap) (h0 : cw_m0 E L m0) (h : cw_rep E L m0 m H) (hS : va_S (cw_AA E) s.heap H locs) (hv : cw_kr L m q) (ht : t < 6) (htg : cw_tg q = (t : Int) + 40) :
    cw_rv E q = .ref (cw_ad E q) ∧ ∃ cell : Cell, H[cw_ad E q]? = some cell ∧ s.isArrayOf cell (cw_aty t) ∧ cell.vm ≠ .unknown ∧ (cw_ln q).toNat ≤ cell.slots.size ∧ cell.slots.size.toInt32 = Int32.ofNat (cw_ln q).toNat ∧ ∀ j : Nat, j < (cw_ln q).toNat → cell.slots[j]? = some (cw_tv E (cw_kv (cw_ak t) (m q j))) ∧ cw_kk L m (cw_kv (cw_ak t) (m q j)) := by
  refine ⟨cw_kr_nz (L := L) (m := m) (by omega), ?_⟩
  have own : cw_vd m q → ∃ cell : Cell, H[cw_ad E q]? = some cell ∧ s.isArrayOf cell (cw_aty t) ∧ cell.vm ≠ .unknown ∧ (cw_ln q).toNat ≤ cell.slots.size ∧ cell.slots.size.toInt32 = Int32.ofNat (cw_ln q).toNat ∧ ∀ j : Nat, j < (cw_ln q).toNat → cell.slots[j]? = some (cw_tv E (cw_kv (cw_ak t) (m q j))) ∧ cw_kk L m (cw_kv (cw_ak t) (m q j)) := fun hv =>
    ⟨_, cw_arr h hv ht htg, cw_aat hKV.1 ht _ _, (fun q => by cases q), by rw [arrV_size]; exact Nat.le_refl _, by rw [arrV_size], fun j hj => ⟨arrV_read _ _ hj, (h.2.1 q hv).2.2 t ht htg j hj⟩⟩
  rcases hv with rfl | hv | ⟨i, hi, rfl⟩ | ⟨w, hw, rfl⟩
  · have e : cw_tg 0 = 0 := by decide
    omega
  · exact own hv
  · rw [cw_sc_tg] at htg; omega
  · obtain ⟨g1, g2, g3, g4⟩ := cw_ca_tg h0.2.2.2 hw
    obtain ⟨cell, k1, k2, k3, k4, k5, k6, -⟩ := (hKH.2.2.2.2.1 w hw).kept hS.2.1
    have hty : cw_aty t = w.2.1 ∧ cw_ak t = 0 := by
      rcases g1 with ⟨g, g'⟩ | ⟨g, g'⟩
      · have : t = 0 := by omega
        subst this; exact ⟨g'.symm, rfl⟩
      · have : t = 3 := by omega
        subst this; exact ⟨g'.symm, rfl⟩
    have hn : (cw_ln w.1).toNat = w.2.2 := by omega
    rw [hn, hty.1, hty.2]
    refine ⟨cell, k1, k2, k3, k4, k5, fun j hj => ?_⟩
    rw [h.2.2 w.1 j g3 g4]
    exact ⟨k6 j hj, h0.1 _ _⟩
theorem si_getf (X : cw_X p s mm args meth c E L m0 nL u) {n t k : Nat} (ht : t < 11) (hk : k < cw_N t) (hd : decode (cw_by u) pc = .ok (.getfield n, 3)) (ha : cw_fld t k = a) (hl : Cond.fieldLink (cw_cn (cw_oc u)) n (cw_TT t k).1 (cw_TT t k).2.1 (cw_TT t k).2.2.1 ∈ cw_T ∨ Cond.fieldLinkNest (cw_cn (cw_oc u)) n (cw_TT t k).1 (cw_TT t k).2.1 (cw_TT t k).2.2.1 "CommaWill" ∈ cw_NW)
    (hgo : ∀ pc ls st m, K pc ls st m → cw_WW p l e R s mm args below meth c Z E L m0 mE nL pc ls st m) (h : cw_G K C Q ls m (cw_stp (pc, 3, .getfield n, a, b, (t : Int) + 1, (k : Int)) ls st m)) : cw_WW p l e R s mm args below meth c Z E L m0 mE nL pc ls st m := by
  obtain ⟨hx, hb, -, -, -, hown, hts, hKV, hKH, h0, -⟩ := X
  obtain ⟨q, s0, rfl, h⟩ := cw_r1_inv h
  obtain ⟨htg, h⟩ := h
  intro H locs LS J
  have hq := J.2.2.2.1 _ List.mem_cons_self
  have hvd : cw_vd m q := cw_kr_own h0.2.2.2 hq htg (Or.inl ⟨by omega, by omega⟩)
  obtain ⟨cell, q1, q2, q3, q4⟩ := cw_obj J.1 hvd ht htg
  obtain ⟨hSl, hfc, kC, hkC, hkind⟩ := hKV.1.1 t _ (cw_clsat ht)
  obtain ⟨cf, kf, fi, f, hi, hsl⟩ := hSl k hk
  have hst := (u_facts hfc hkC (u_lays hts (cw_uws ht) hk) hi).1
  subst ha
  have kk := hgo _ _ _ _ (h : K (pc + 3) ls (cw_kv (cw_fld t k) (m q k) :: s0) m) H locs LS (cw_J_st J (cw_all1 ((J.1.2.1 q hvd).2.1 t ht htg k hk) (fun z hz => J.2.2.2.1 z (List.mem_cons_of_mem _ hz))))
  show W p l e R s mm args below meth c H locs (m (-1) 0 - mE (-1) 0).toNat (m (-1) 1 - mE (-1) 1).toNat Z (F0 mm pc LS (cw_rv E q :: s0.map (cw_tv E)))
  rw [cw_kr_nz (L := L) (m := m) (by omega)]
  rcases hl with hl | hl
  · exact W.getf hx hb hown (hts _ hl) hi hst q1 (by rw [q3]; exact fun h => by cases h) (by rw [hsl]; exact q4 k hk) rfl rfl hd kk
  · exact va_Wgetf hx hb hown (va_Nw.use rfl (hKV.2.1 _ hl)) hi hst q1 (by rw [q3]; exact fun h => by cases h) (by rw [hsl]; exact q4 k hk) rfl rfl hd kk
theorem si_getfS (X : cw_X p s mm args meth c E L m0 nL u) (hu : cw_oc u = 12) {n : Nat} (hd : decode (cw_by u) pc = .ok (.getfield n, 3)) (hn : n = 9 ∧ y = 0 ∧ a = 2 ∨ n = 15 ∧ y = 1 ∧ a = 0)
    (hgo : ∀ pc ls st m, K pc ls st m → cw_WW p l e R s mm args below meth c Z E L m0 mE nL pc ls st m) (h : cw_G K C Q ls m (cw_stp (pc, 3, .getfield n, a, b, 12, y) ls st m)) : cw_WW p l e R s mm args below meth c Z E L m0 mE nL pc ls st m := by
  obtain ⟨hx, hb, -, -, -, hown, hts, hKV, hKH, h0, -⟩ := X
  obtain ⟨q, s0, rfl, h⟩ := cw_r1_inv h
  obtain ⟨htg, h⟩ := h
  intro H locs LS J
  have hq := J.2.2.2.1 _ List.mem_cons_self
  rw [hu] at hown
  have hsc : ∃ i : Nat, i < 11 ∧ q = cw_sc i := by
    rcases hq with rfl | hv | hi | ⟨w, hw, rfl⟩
    · have e : cw_tg 0 = 0 := by decide
      omega
    · rcases (J.1.2.1 q hv).1 with ⟨t', t1, t2, t3⟩ | ⟨t', t1, t2, t3⟩ <;> omega
    · exact hi
    · have := (cw_ca_tg h0.2.2.2 hw).1; omega
  obtain ⟨i, hi, rfl⟩ := hsc
  obtain ⟨o1, o2, o3⟩ := hKH.2.2.2.2.2 i hi
  have hpos : 0 < cw_sc i ∧ cw_sc i < 33554432 := by unfold cw_sc; omega
  have hm0 := h0.2.1 i hi
  show W p l e R s mm args below meth c H locs (m (-1) 0 - mE (-1) 0).toNat (m (-1) 1 - mE (-1) 1).toNat Z (F0 mm pc LS (cw_rv E (cw_sc i) :: s0.map (cw_tv E)))
  rw [cw_kr_nz (L := L) (m := m) (by omega)]
  rcases hn with ⟨rfl, rfl, rfl⟩ | ⟨rfl, rfl, rfl⟩
  · have h : K (pc + 3) ls (vr (m (cw_sc i) 0) :: s0) m := h
    rw [J.1.2.2 _ _ hpos.1 hpos.2, hm0.1] at h
    have hmem : (cw_bc i, FieldType.byte, cw_bl i) ∈ cw_ca L := List.mem_cons_of_mem _ (List.mem_cons_of_mem _ (List.mem_cons_of_mem _ (List.mem_map.mpr ⟨i, List.mem_range.mpr hi, rfl⟩)))
    have kk := hgo _ _ _ _ h H locs LS (cw_J_st J (cw_all1 (Or.inr (Or.inr (Or.inr ⟨_, hmem, rfl⟩))) (fun z hz => J.2.2.2.1 z (List.mem_cons_of_mem _ hz))))
    have kk : W p l e R s mm args below meth c H locs (m (-1) 0 - mE (-1) 0).toNat (m (-1) 1 - mE (-1) 1).toNat Z (F0 mm (pc + 3) LS (cw_rv E (cw_bc i) :: s0.map (cw_tv E))) := kk
    have hb43 := (cw_ca_tg h0.2.2.2 hmem).1
    rw [cw_kr_nz (L := L) (m := m) (c := cw_bc i) (by rcases hb43 with ⟨g, -⟩ | ⟨g, -⟩ <;> (have g : cw_tg (cw_bc i) = _ := g; omega))] at kk
    exact vk_getf hx hb o2 J.2.1 hown (hts _ cw_gs_4) (fun _ z => z) hd kk
  · have h : K (pc + 3) ls (vi (m (cw_sc i) 1) :: s0) m := h
    rw [J.1.2.2 _ _ hpos.1 hpos.2, hm0.2] at h
    have kk := hgo _ _ _ _ h H locs LS (cw_J_st J (cw_all1 cw_rz (fun z hz => J.2.2.2.1 z (List.mem_cons_of_mem _ hz))))
    exact vk_getf hx hb o3 J.2.1 hown (hts _ cw_gs_5) (fun _ z => z) hd kk
end CWH
