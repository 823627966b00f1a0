/-! Locals and heaps: what a store, a new cell, a copy does to them. -/
theorem cw_rv_or {E : cw_E} {L : Nat} {m0 : cw_M} (h0 : cw_m0 E L m0) (c : Int) : cw_rv E c = .null ∨ ∃ a, cw_rv E c = .ref a := by
  unfold cw_rv
  by_cases h : c = 0
  · rw [if_pos h]; exact Or.inl rfl
  · rw [if_neg h]; exact Or.inr ⟨_, rfl⟩
theorem cw_tv1 {E : cw_E} {L : Nat} {m0 : cw_M} (h0 : cw_m0 E L m0) {v : cw_V} (h : cw_c1 v = true) : (cw_tv E v).category = 1 := by
  rcases v with _ | x | x | x
  · cases h
  · rfl
  · cases h
  · rcases cw_rv_or h0 x with q | ⟨a, q⟩
    · show (cw_rv E x).category = 1
      rw [q]; rfl
    · show (cw_rv E x).category = 1
      rw [q]; rfl
theorem cw_tvc {E : cw_E} {L : Nat} {m0 : cw_M} (h0 : cw_m0 E L m0) (v : cw_V) : (cw_tv E v).category = cw_ct v := by
  rcases v with _ | x | x | x
  · show E.2.2.2.2.category = 1
    rcases h0.2.2.1 with q | ⟨a, q⟩ <;> (rw [q]; rfl)
  · rfl
  · rfl
  · exact cw_tv1 h0 rfl
theorem cw_csum {E : cw_E} {L : Nat} {m0 : cw_M} (h0 : cw_m0 E L m0) : ∀ st : List cw_V, ((st.map (cw_tv E)).map fun v => v.category).sum = cw_cs st
  | [] => rfl
  | v :: t => by
    show (cw_tv E v).category + ((t.map (cw_tv E)).map fun v => v.category).sum = cw_ct v + cw_cs t
    rw [cw_csum h0 t, cw_tvc h0]
def cw_lv (E : cw_E) (ls : List cw_V) : List (Nat × Value) := (List.range ls.length).filterMap (fun i => (cw_lg ls i).map (fun v => (i, cw_tv E (some v))))
theorem cw_lg_lt : ∀ {ls : List cw_V} {i : Nat} {v : Int ⊕ (Int ⊕ Int)}, cw_lg ls i = some v → i < ls.length
  | [], _, _, h => by cases h
  | _ :: _, 0, _, _ => by simp
  | _ :: t, i + 1, v, h => by have := cw_lg_lt (ls := t) (i := i) (v := v) h; simp; omega
theorem cw_lv_mem {E : cw_E} {ls : List cw_V} {i : Nat} {v : Int ⊕ (Int ⊕ Int)} (h : cw_lg ls i = some v) : (i, cw_tv E (some v)) ∈ cw_lv E ls := by
  unfold cw_lv
  rw [List.mem_filterMap]
  exact ⟨i, List.mem_range.mpr (cw_lg_lt h), by rw [h]; rfl⟩
theorem cw_lr_has {E : cw_E} {nL : Nat} {ls : List cw_V} {LS : Array Slot} (h : cw_lr E nL ls LS) : lv_has LS nL (cw_lv E ls) := by
  refine ⟨h.1.1, h.1.2, fun q hq => ?_⟩
  unfold cw_lv at hq
  rw [List.mem_filterMap] at hq
  obtain ⟨i, -, hi⟩ := hq
  cases hv : cw_lg ls i with
  | none => rw [hv] at hi; cases hi
  | some v => rw [hv] at hi; cases hi; exact h.2.2 i v hv
theorem cw_lr_st1 {E : cw_E} {L : Nat} {m0 : cw_M} (h0 : cw_m0 E L m0) {nL : Nat} {ls l' : List cw_V} {LS LS' : Array Slot} {n : Nat} {v : Int ⊕ (Int ⊕ Int)} (h : cw_lr E nL ls LS) (h3 : l'.length = ls.length) (h4 : cw_lg l' n = some v)
    (h5 : ∀ j : Nat, j ≠ n → cw_lg l' j = cw_lg ls j ∧ (j + 1 = n → ∀ z, cw_lg ls j ≠ vl z) ∨ j ≠ n ∧ cw_lg l' j = none) (hs : lv_has LS' nL ((n, cw_tv E (some v)) :: (cw_lv E ls).filter (fun q => !(q.1 == n) && !(q.1 + 1 == n && q.2.category == 2)))) : cw_lr E nL l' LS' := by
  refine ⟨⟨hs.1, hs.2.1⟩, by rw [h3]; exact h.2.1, fun i w hw => ?_⟩
  by_cases hi : i = n
  · subst hi
    rw [h4] at hw
    cases hw
    exact hs.2.2 _ List.mem_cons_self
  · rcases h5 i hi with ⟨q1, q2⟩ | ⟨-, q2⟩
    · rw [q1] at hw
      refine hs.2.2 (i, _) (List.mem_cons_of_mem _ (List.mem_filter.mpr ⟨cw_lv_mem hw, ?_⟩))
      simp only [Bool.and_eq_true, Bool.not_eq_true', beq_eq_false_iff_ne, ne_eq, Bool.and_eq_false_iff]
      refine ⟨hi, ?_⟩
      by_cases hn : i + 1 = n
      · refine Or.inr ?_
        show ¬ (cw_tv E (some w)).category = 2
        rw [cw_tvc h0]
        rcases w with x | x | x
        · exact (by decide : ¬ (1 : Nat) = 2)
        · exact absurd hw (q2 hn x)
        · exact (by decide : ¬ (1 : Nat) = 2)
      · exact Or.inl hn
    · rw [q2] at hw; cases hw
theorem cw_lr_st2 {E : cw_E} {L : Nat} {m0 : cw_M} (h0 : cw_m0 E L m0) {nL : Nat} {ls l' : List cw_V} {LS LS' : Array Slot} {n : Nat} {v : Int ⊕ (Int ⊕ Int)} (h : cw_lr E nL ls LS) (h3 : l'.length = ls.length) (h4 : cw_lg l' n = some v) (h6 : cw_lg l' (n + 1) = none)
    (h5 : ∀ j : Nat, j ≠ n → j ≠ n + 1 → cw_lg l' j = cw_lg ls j ∧ (j + 1 = n → ∀ z, cw_lg ls j ≠ vl z) ∨ cw_lg l' j = none) (hs : lv_has LS' nL ((n, cw_tv E (some v)) :: (cw_lv E ls).filter (fun q => !(q.1 == n) && (!(q.1 == n + 1) && !(q.1 + 1 == n && q.2.category == 2))))) : cw_lr E nL l' LS' := by
  refine ⟨⟨hs.1, hs.2.1⟩, by rw [h3]; exact h.2.1, fun i w hw => ?_⟩
  by_cases hi : i = n
  · subst hi
    rw [h4] at hw
    cases hw
    exact hs.2.2 _ List.mem_cons_self
  · by_cases hi2 : i = n + 1
    · subst hi2
      rw [h6] at hw; cases hw
    · rcases h5 i hi hi2 with ⟨q1, q2⟩ | q2
      · rw [q1] at hw
        refine hs.2.2 (i, _) (List.mem_cons_of_mem _ (List.mem_filter.mpr ⟨cw_lv_mem hw, ?_⟩))
        simp only [Bool.and_eq_true, Bool.not_eq_true', beq_eq_false_iff_ne, ne_eq, Bool.and_eq_false_iff]
        refine ⟨hi, hi2, ?_⟩
        by_cases hn : i + 1 = n
        · refine Or.inr ?_
          show ¬ (cw_tv E (some w)).category = 2
          rw [cw_tvc h0]
          rcases w with x | x | x
          · exact (by decide : ¬ (1 : Nat) = 2)
          · exact absurd hw (q2 hn x)
          · exact (by decide : ¬ (1 : Nat) = 2)
        · exact Or.inl hn
      · rw [q2] at hw; cases hw
/-! references -/
theorem cw_sc_tg (i : Nat) : cw_tg (cw_sc i) = 12 := by unfold cw_tg cw_sc; omega
theorem cw_ca_tg {L : Nat} (hL : L ≤ 3072) {q : Int × FieldType × Nat} (h : q ∈ cw_ca L) : (cw_tg q.1 = 40 ∧ q.2.1 = .int ∨ cw_tg q.1 = 43 ∧ q.2.1 = .byte) ∧ cw_ln q.1 = (q.2.2 : Int) ∧ 0 < q.1 ∧ q.1 < 33554432 := by
  unfold cw_ca at h
  rcases List.mem_cons.mp h with rfl | h
  · unfold cw_tg cw_ln cw_scr; exact ⟨Or.inl ⟨by omega, rfl⟩, by show ((16384 + (L : Int)) * 64 + 40) / 64 % 16384 = (L : Int); omega, by show 0 < (16384 + (L : Int)) * 64 + 40; omega, by show (16384 + (L : Int)) * 64 + 40 < 33554432; omega⟩
  rcases List.mem_cons.mp h with rfl | h
  · exact ⟨Or.inl ⟨by decide, rfl⟩, by decide, by decide, by decide⟩
  rcases List.mem_cons.mp h with rfl | h
  · exact ⟨Or.inl ⟨by decide, rfl⟩, by decide, by decide, by decide⟩
  · obtain ⟨i, hi, rfl⟩ := List.mem_map.mp h
    have hi := List.mem_range.mp hi
    have hb : cw_bl i < 64 := by unfold cw_bl; split <;> omega
    unfold cw_tg cw_ln
    refine ⟨Or.inr ⟨?_, rfl⟩, ?_, ?_, ?_⟩
    · show cw_bc i % 64 = 43
      unfold cw_bc; omega
    · show cw_bc i / 64 % 16384 = (cw_bl i : Int)
      unfold cw_bc; omega
    · show 0 < cw_bc i
      unfold cw_bc; omega
    · show cw_bc i < 33554432
      unfold cw_bc; omega
theorem cw_kr_own {L : Nat} (hL : L ≤ 3072) {m : cw_M} {c x : Int} (h : cw_kr L m c) (ht : cw_tg c = x) (hx : 1 ≤ x ∧ x ≤ 11 ∨ x = 41 ∨ x = 42 ∨ 44 ≤ x) : cw_vd m c := by
  rcases h with rfl | h | ⟨i, hi, rfl⟩ | ⟨q, hq, rfl⟩
  · unfold cw_tg at ht; omega
  · exact h
  · rw [cw_sc_tg] at ht; omega
  · have := (cw_ca_tg hL hq).1; omega
theorem cw_kr_nz {L : Nat} {m : cw_M} {c : Int} {E : cw_E} (ht : cw_tg c ≠ 0) : cw_rv E c = .ref (cw_ad E c) := by
  unfold cw_rv
  rw [if_neg (fun q => by rw [q] at ht; exact ht (by decide))]
theorem cw_ce32 {c : Int} (h : 33554432 ≤ c) : 32 ≤ cw_ce c := by unfold cw_ce; omega
theorem cw_ad_own {E : cw_E} {c : Int} (h : 33554432 ≤ c) : cw_ad E c = E.2.2.1 + (cw_ce c - 32).toNat := by unfold cw_ad; rw [if_neg (by omega)]
theorem cw_ad_ne {E : cw_E} {m : cw_M} {c c' : Int} (h : cw_vd m c) (h' : cw_vd m c') (hne : c' ≠ c) : cw_ad E c' ≠ cw_ad E c := by
  rw [cw_ad_own h.1, cw_ad_own h'.1]
  intro q
  have h1 := cw_ce32 h.1
  have h2 := cw_ce32 h'.1
  have : cw_ce c' = cw_ce c := by omega
  exact hne (by rw [← h'.2.2, this, h.2.2])
/-- a memory that differs in one cell alone -/
theorem cw_kk_of {L : Nat} {m m' : cw_M} (h1 : m' (-1) = m (-1)) (h2 : m' (-2) = m (-2)) (v : cw_V) : cw_kk L m' v ↔ cw_kk L m v := by
  rcases v with _ | x | x | x
  · exact Iff.rfl
  · exact Iff.rfl
  · exact Iff.rfl
  · show cw_kr L m' x ↔ cw_kr L m x
    unfold cw_kr cw_vd
    rw [h1, h2]
theorem cw_vd_of {m m' : cw_M} (h1 : m' (-1) = m (-1)) (h2 : m' (-2) = m (-2)) (c : Int) : cw_vd m' c ↔ cw_vd m c := by unfold cw_vd; rw [h1, h2]
theorem cw_rep_upd {E : cw_E} {L : Nat} {m0 m m' : cw_M} {H H' : Heap} {c : Int} (h : cw_rep E L m0 m H) (hc : cw_vd m c) (hm : ∀ b, b ≠ c → m' b = m b) (hz : H'.size = H.size) (ho : ∀ q, q ≠ cw_ad E c → H'[q]? = H[q]?)
    (hcel : cw_cel E m' H' c (cw_ad E c)) (hcon : cw_con L m' c) : cw_rep E L m0 m' H' := by
  have hc0 := hc.1
  have h1 : m' (-1) = m (-1) := hm _ (by omega)
  have h2 : m' (-2) = m (-2) := hm _ (by omega)
  refine ⟨⟨by rw [h1]; exact h.1.1, by rw [h1, hz]; exact h.1.2⟩, fun b hb => ?_, fun b j hb1 hb2 => by rw [hm b (by omega)]; exact h.2.2 b j hb1 hb2⟩
  by_cases hbc : b = c
  · subst hbc; exact ⟨hcel, hcon⟩
  · have hb' := (cw_vd_of h1 h2 b).mp hb
    obtain ⟨q1, q2⟩ := h.2.1 b hb'
    have hne := cw_ad_ne (E := E) hc hb' hbc
    have e := hm b hbc
    refine ⟨?_, ?_⟩
    · rcases q1 with ⟨t, t1, t2, t3⟩ | ⟨t, t1, t2, t3⟩
      · exact Or.inl ⟨t, t1, t2, by rw [e]; exact t3.kept (ho _ hne)⟩
      · exact Or.inr ⟨t, t1, t2, by rw [e, ho _ hne]; exact t3⟩
    · exact ⟨fun t t1 t2 k hk => (cw_kk_of h1 h2 _).mpr (by rw [e]; exact q2.1 t t1 t2 k hk), fun t t1 t2 k hk => (cw_kk_of h1 h2 _).mpr (by rw [e]; exact q2.2 t t1 t2 k hk)⟩
theorem cw_put_ne {m : cw_M} {c i v b : Int} (h : b ≠ c) : cw_put m c i v b = m b := by
  funext j
  unfold cw_put
  rw [if_neg (fun q => h q.1)]
theorem cw_put_eq {m : cw_M} {c i v : Int} : cw_put m c i v c i = v := by unfold cw_put; rw [if_pos ⟨rfl, rfl⟩]
theorem cw_put_off {m : cw_M} {c i v j : Int} (h : j ≠ i) : cw_put m c i v c j = m c j := by unfold cw_put; rw [if_neg (fun q => h q.2)]
/-- a field is set -/
theorem cw_rep_field {E : cw_E} {L : Nat} {m0 m : cw_M} {H H' : Heap} {c v : Int} {t k : Nat} {cell : Cell} (h : cw_rep E L m0 m H) (hc : cw_vd m c) (ht : t < 11) (htg : cw_tg c = (t : Int) + 1) (hk : k < cw_N t) (hz : H'.size = H.size) (ho : ∀ q, q ≠ cw_ad E c → H'[q]? = H[q]?)
    (hap : ∀ x y, x < cw_N t → y < cw_N t → x ≠ y → E.1.2 t x ≠ E.1.2 t y) (hcell : H[cw_ad E c]? = some cell) (hH : H'[cw_ad E c]? = some (cell.setSlot (E.1.2 t k) (cw_tv E (cw_kv (cw_fld t k) v)))) (hv : cw_kk L m (cw_kv (cw_fld t k) v)) : cw_rep E L m0 (cw_put m c k v) H' := by
  have hc0 := hc.1
  obtain ⟨q1, q2⟩ := h.2.1 c hc
  have h1 : cw_put m c k v (-1) = m (-1) := cw_put_ne (by omega)
  have h2 : cw_put m c k v (-2) = m (-2) := cw_put_ne (by omega)
  refine cw_rep_upd h hc (fun b hb => cw_put_ne hb) hz ho ?_ ?_
  · rcases q1 with ⟨t', t1, t2, cell', g1, g2, g3, g4⟩ | ⟨t', t1, t2, t3⟩
    · have : t' = t := by omega
      subst this
      cases hcell.symm.trans g1
      refine Or.inl ⟨t', t1, t2, t_OB.to (V := updV (fun k => cw_tv E (cw_kv (cw_fld t' k) (m c k))) k (cw_tv E (cw_kv (cw_fld t' k) v))) ⟨_, hH, g2, g3, t_set g4 hap hk _⟩ (fun j hj => ?_)⟩
      unfold updV
      by_cases hjk : j = k
      · subst hjk; rw [if_pos rfl, cw_put_eq]
      · rw [if_neg hjk, cw_put_off (by omega)]
    · omega
  · refine ⟨fun t' t1 t2 j hj => (cw_kk_of h1 h2 _).mpr ?_, fun t' t1 t2 j hj => by omega⟩
    have : t' = t := by omega
    subst this
    by_cases hjk : j = k
    · subst hjk; rw [cw_put_eq]; exact hv
    · rw [cw_put_off (by omega)]; exact q2.1 t' t1 t2 j hj
/-- an array's element is set -/
theorem cw_rep_elem {E : cw_E} {L : Nat} {m0 m : cw_M} {H H' : Heap} {c v i : Int} {t : Nat} (h : cw_rep E L m0 m H) (hc : cw_vd m c) (ht : t < 6) (htg : cw_tg c = (t : Int) + 40) (hi : 0 ≤ i) (hz : H'.size = H.size) (ho : ∀ q, q ≠ cw_ad E c → H'[q]? = H[q]?) {cell : Cell} (hcell : H[cw_ad E c]? = some cell)
    (hH : H'[cw_ad E c]? = some (cell.setSlot i.toNat (cw_tv E (cw_kv (cw_ak t) v)))) (hv : cw_kk L m (cw_kv (cw_ak t) v)) : cw_rep E L m0 (cw_put m c i v) H' := by
  have hc0 := hc.1
  obtain ⟨q1, q2⟩ := h.2.1 c hc
  have h1 : cw_put m c i v (-1) = m (-1) := cw_put_ne (by omega)
  have h2 : cw_put m c i v (-2) = m (-2) := cw_put_ne (by omega)
  refine cw_rep_upd h hc (fun b hb => cw_put_ne hb) hz ho ?_ ?_
  · rcases q1 with ⟨t', t1, t2, t3⟩ | ⟨t', t1, t2, t3⟩
    · omega
    · have : t' = t := by omega
      subst this
      cases hcell.symm.trans t3
      refine Or.inr ⟨t', t1, t2, ?_⟩
      rw [hH, arrV_store]
      congr 2
      funext j
      unfold updV
      by_cases hjk : j = i.toNat
      · subst hjk; rw [if_pos rfl, show ((i.toNat : Nat) : Int) = i by omega, cw_put_eq]
      · rw [if_neg hjk, cw_put_off (by omega)]
  · refine ⟨fun t' t1 t2 j hj => by omega, fun t' t1 t2 j hj => (cw_kk_of h1 h2 _).mpr ?_⟩
    have : t' = t := by omega
    subst this
    by_cases hjk : (j : Int) = i
    · rw [hjk, cw_put_eq]; exact hv
    · rw [cw_put_off hjk]; exact q2.2 t' t1 t2 j hj
/-- a new cell -/
theorem cw_nc_ok {m : cw_M} {t n : Int} (h32 : 32 ≤ m (-1) 0) (ht : 0 ≤ t ∧ t < 64) (hn : 0 ≤ n ∧ n < 16384) : cw_tg (cw_nc m t n) = t ∧ cw_ln (cw_nc m t n) = n ∧ cw_ce (cw_nc m t n) = m (-1) 0 ∧ 33554432 ≤ cw_nc m t n := by
  unfold cw_tg cw_ln cw_ce cw_nc
  omega
theorem cw_new_c {m : cw_M} {t n j : Int} : cw_new m t n (cw_nc m t n) j = 0 := by unfold cw_new; rw [if_pos rfl]
theorem cw_new_0 {m : cw_M} {t n : Int} (h : 33554432 ≤ cw_nc m t n) : cw_new m t n (-1) 0 = m (-1) 0 + 1 := by unfold cw_new; rw [if_neg (by omega), if_pos rfl, if_pos rfl]
theorem cw_new_1 {m : cw_M} {t n : Int} (h : 33554432 ≤ cw_nc m t n) : cw_new m t n (-1) 1 = m (-1) 1 + n := by unfold cw_new; rw [if_neg (by omega), if_pos rfl, if_neg (by decide), if_pos rfl]
theorem cw_new_2 {m : cw_M} {t n : Int} (h : 33554432 ≤ cw_nc m t n) : cw_new m t n (-2) (m (-1) 0) = cw_nc m t n := by unfold cw_new; rw [if_neg (by omega), if_neg (by decide), if_pos ⟨rfl, rfl⟩]
theorem cw_new_3 {m : cw_M} {t n j : Int} (h : 33554432 ≤ cw_nc m t n) (hj : j ≠ m (-1) 0) : cw_new m t n (-2) j = m (-2) j := by unfold cw_new; rw [if_neg (by omega), if_neg (by decide), if_neg (fun q => hj q.2)]
theorem cw_new_b {m : cw_M} {t n b : Int} (h : b ≠ cw_nc m t n) (h1 : b ≠ -1) (h2 : b ≠ -2) : cw_new m t n b = m b := by
  funext j
  unfold cw_new; rw [if_neg h, if_neg h1, if_neg (fun q => h2 q.1)]
theorem cw_new_vd {m : cw_M} {t n c : Int} (h32 : 32 ≤ m (-1) 0) (ht : 0 ≤ t ∧ t < 64) (hn : 0 ≤ n ∧ n < 16384) : cw_vd (cw_new m t n) c ↔ c = cw_nc m t n ∨ cw_vd m c := by
  obtain ⟨-, -, g3, g4⟩ := cw_nc_ok h32 ht hn
  unfold cw_vd
  rw [cw_new_0 g4]
  constructor
  · rintro ⟨a1, a2, a3⟩
    by_cases hc : cw_ce c = m (-1) 0
    · rw [hc, cw_new_2 g4] at a3; exact Or.inl a3.symm
    · rw [cw_new_3 g4 hc] at a3; exact Or.inr ⟨a1, by omega, a3⟩
  · rintro (rfl | ⟨a1, a2, a3⟩)
    · exact ⟨g4, by omega, by rw [g3, cw_new_2 g4]⟩
    · exact ⟨a1, by omega, by rw [cw_new_3 g4 (by omega)]; exact a3⟩
theorem cw_new_kk {L : Nat} {m : cw_M} {t n : Int} (h32 : 32 ≤ m (-1) 0) (ht : 0 ≤ t ∧ t < 64) (hn : 0 ≤ n ∧ n < 16384) {v : cw_V} (h : cw_kk L m v) : cw_kk L (cw_new m t n) v := by
  rcases v with _ | x | x | x
  · exact h
  · exact h
  · exact h
  · rcases h with h | h | h
    · exact Or.inl h
    · exact Or.inr (Or.inl ((cw_new_vd h32 ht hn).mpr (Or.inr h)))
    · exact Or.inr (Or.inr h)
theorem cw_kk0 (L : Nat) (m : cw_M) (k : Nat) : cw_kk L m (cw_kv k 0) := by
  match k with
  | 0 => exact cw_rz
  | 1 => exact ⟨by decide, by decide⟩
  | 2 => exact Or.inl rfl
  | k + 3 => exact trivial
theorem cw_rep_new {E : cw_E} {L : Nat} {m0 m : cw_M} {H H' : Heap} {t n : Int} (h : cw_rep E L m0 m H) (ht : 0 ≤ t ∧ t < 64) (hn : 0 ≤ n ∧ n < 16384) (hz : H'.size = H.size + 1) (ho : ∀ q, q < H.size → H'[q]? = H[q]?)
    (hcel : (∃ t' : Nat, t' < 11 ∧ t = (t' : Int) + 1 ∧ t_OB H.size (E.1.1 t') (cw_N t') (E.1.2 t') H' (fun k => cw_tv E (cw_kv (cw_fld t' k) 0))) ∨ (∃ t' : Nat, t' < 6 ∧ t = (t' : Int) + 40 ∧ H'[H.size]? = some (arrV (E.2.1 t') n.toNat (fun _ => cw_tv E (cw_kv (cw_ak t') 0))))) : cw_rep E L m0 (cw_new m t n) H' ∧ cw_vd (cw_new m t n) (cw_nc m t n) ∧ cw_ad E (cw_nc m t n) = H.size := by
  have h32 := h.1.1
  obtain ⟨g1, g2, g3, g4⟩ := cw_nc_ok h32 ht hn
  have had : cw_ad E (cw_nc m t n) = H.size := by rw [cw_ad_own g4, g3, h.1.2]
  refine ⟨⟨⟨by rw [cw_new_0 g4]; omega, by rw [cw_new_0 g4, hz, h.1.2]; omega⟩, fun c hc => ?_, fun c j hc1 hc2 => by rw [cw_new_b (by omega) (by omega) (by omega)]; exact h.2.2 c j hc1 hc2⟩, (cw_new_vd h32 ht hn).mpr (Or.inl rfl), had⟩
  rcases (cw_new_vd h32 ht hn).mp hc with rfl | hc'
  · rw [had]
    refine ⟨?_, ?_⟩
    · rcases hcel with ⟨t', t1, t2, t3⟩ | ⟨t', t1, t2, t3⟩
      · exact Or.inl ⟨t', t1, by rw [g1]; exact t2, t3.to (fun k _ => by rw [cw_new_c])⟩
      · exact Or.inr ⟨t', t1, by rw [g1]; exact t2, by rw [g2, t3]; congr 2; funext j; rw [cw_new_c]⟩
    · exact ⟨fun t' _ _ k _ => by rw [cw_new_c]; exact cw_kk0 _ _ _, fun t' _ _ k _ => by rw [cw_new_c]; exact cw_kk0 _ _ _⟩
  · obtain ⟨q1, q2⟩ := h.2.1 c hc'
    have hne : c ≠ cw_nc m t n := fun q => by have := hc'.2.1; rw [q, g3] at this; omega
    have hc1 := hc'.1
    have e : cw_new m t n c = m c := cw_new_b hne (by omega) (by omega)
    have hlt : cw_ad E c < H.size := by
      rw [cw_ad_own hc1, h.1.2]
      have := cw_ce32 hc1
      have := hc'.2.1
      omega
    refine ⟨?_, ?_⟩
    · rcases q1 with ⟨t', t1, t2, t3⟩ | ⟨t', t1, t2, t3⟩
      · exact Or.inl ⟨t', t1, t2, by rw [e]; exact t3.kept (ho _ hlt)⟩
      · exact Or.inr ⟨t', t1, t2, by rw [e, ho _ hlt]; exact t3⟩
    · exact ⟨fun t' t1 t2 k hk => cw_new_kk h32 ht hn (by rw [e]; exact q2.1 t' t1 t2 k hk), fun t' t1 t2 k hk => cw_new_kk h32 ht hn (by rw [e]; exact q2.2 t' t1 t2 k hk)⟩
