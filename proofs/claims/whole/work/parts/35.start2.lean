/-- THE LAW, from its entry, out of a run of the abstract machine -/
theorem cw_start {p : Program} {e : Env} {s : State} {m : MethodId} {below : List Frame} {meth : Method} {c : Code} (l : Launch) {b L d : Nat} {xs : Nat → Int32} (hL : L ≤ 3072) (hd : d ≤ 1000) (C0 : lw_At p s m meth c b L xs)
    (hA : cw_C d k_L_law [vr (cw_scr L)] (cw_mi L xs) (fun r m' => r = some (vi 1) ∧ m' (-1) 0 ≤ 600032 ∧ m' (-1) 1 ≤ 7302250)) : W p l e room_1 s m #[Value.ref b] below meth c s.heap [] 0 0 (lw_Z below #[Value.ref b] s) (entryFrame m ([Value.ref b] : List Value).toArray 4) := by
  obtain ⟨hx, hb, hr, hml, hown, hts, hX, hbl, hlocks, hgv⟩ := C0
  have hfl := flat_of_before _ hgv
  have hfl : ∀ w ∈ flatC cw_nar, w.before #[Value.ref b] s = true := hfl
  have hT : ∀ w ∈ cw_T, w.before #[Value.ref b] s = true := fun w hw => hts w (List.mem_filter.mp hw).1
  have hAb : ∀ a : Nat, a < s.heap.size → ¬ (fun q : Nat => s.heap.size ≤ q) a := fun a h => Nat.not_le.mpr h
  -- the classes
  have hcls : ∀ t : Nat, ∃ q : ClassId × (Nat → Nat), t < 11 → u_Kn s (cw_cn t) (cw_TT t) (cw_N t) q.1 q.2 := by
    intro t
    by_cases ht : t < 11
    · obtain ⟨cC, iS, h⟩ := u_known (C := cw_cn t) (T := cw_TT t) (N := cw_N t) (n := cw_N t) hT (cw_uws ht) (hT _ (cw_inst ht).1)
      exact ⟨(cC, iS), fun _ => h⟩
    · exact ⟨(0, fun _ => 0), fun h => absurd h ht⟩
  obtain ⟨dCI, hdCI⟩ := Classical.axiomOfChoice hcls
  -- the arrays
  have harr : ∀ t : Nat, ∃ cA : ClassId, t < 6 → ArrOfT s cA (cw_aty t) ∧ va_RA s cA (cw_aty t) := by
    have prim : ∀ ty : FieldType, (Cond.arrayClass ty).before #[Value.ref b] s = true → ∃ cA : ClassId, ArrOfT s cA ty ∧ s.vm.findClass ("[" ++ ty.toString) = some cA := by
      intro ty h
      obtain ⟨cA, k, comp, h1, h2, h3⟩ := Cond.arrayClass_spec h
      exact ⟨cA, fun n z => ⟨fun k h => (by cases h), k, h2, comp, h3⟩, h1⟩
    have obj : ∀ n : String, (Cond.arrayOver (.object n)).before #[Value.ref b] s = true → ∃ cA : ClassId, ArrOfT s cA (.object n) ∧ va_RA s cA (.object n) := by
      intro n h
      obtain ⟨comp, cA, k, h1, -, h3, h4, h5⟩ := Cond.arrayOver_spec h
      exact ⟨cA, fun n z => ⟨fun k h => (by cases h), k, h3, comp, h4⟩, k, comp, h3, h4, h1, h5⟩
    intro t
    match t with
    | 0 => obtain ⟨cA, q⟩ := prim .int (hT _ cw_ac_int); exact ⟨cA, fun _ => q⟩
    | 1 => obtain ⟨cA, q⟩ := prim .long (hT _ cw_ac_long); exact ⟨cA, fun _ => q⟩
    | 2 => obtain ⟨cA, q⟩ := prim .boolean (hT _ cw_ac_boolean); exact ⟨cA, fun _ => q⟩
    | 3 => obtain ⟨cA, q⟩ := prim .byte (hT _ cw_ac_byte); exact ⟨cA, fun _ => q⟩
    | 4 => obtain ⟨cA, q⟩ := obj _ (hts _ cw_t8); exact ⟨cA, fun _ => q⟩
    | 5 => obtain ⟨cA, q⟩ := obj _ (hts _ cw_t9); exact ⟨cA, fun _ => q⟩
    | t + 6 => exact ⟨0, fun h => by omega⟩
  obtain ⟨dA, hdA⟩ := Classical.axiomOfChoice harr
  -- the constants
  obtain ⟨t2, e2, hT2⟩ := va_Tof (tm := .static "CommaWill" "TREES" "[I") (ty := .int) (N := 7) (f := fun j => .int (Int32.ofInt ([1, 1, 2, 5, 14, 42, 132].getD j 0))) (A := fun q : Nat => s.heap.size ≤ q) (by decide) (hfl _ cw_f9.1) (va_eqt (hfl _ cw_f9.2.1)) (fun j hj => va_eqt (hfl _ (cw_f7 j hj))) hAb
  obtain ⟨t3, e3, hT3⟩ := va_Tof (tm := .static "CommaWill" "TERM_MOST" "[I") (ty := .int) (N := 4) (f := fun j => .int (Int32.ofInt ([999, 9999, 9, 10].getD j 0))) (A := fun q : Nat => s.heap.size ≤ q) (by decide) (hfl _ cw_f9.2.2.1) (va_eqt (hfl _ cw_f9.2.2.2.1)) (fun j hj => va_eqt (hfl _ (cw_f8 j hj))) hAb
  obtain ⟨adK, adV, hSS, hSe⟩ := vk_Sof (N := 11) (tm := cw_tm) (len := cw_lens) (byt := cw_byl) (A := fun q : Nat => s.heap.size ≤ q) (by decide) (fun i hi => hfl _ (cw_f1 i hi)) (fun i hi => hfl _ (cw_f2 i hi)) (fun i hi => hfl _ (cw_f3 i hi)) (fun i hi => hfl _ (cw_f4 i hi)) (fun i hi j hj => hfl _ (cw_f5 i hi j hj)) (fun i j hi hj hne => by
    rcases cw_f6 i hi j hj hne with q | q
    · exact Or.inl (hfl _ q)
    · exact Or.inr (hfl _ q)) hAb
  obtain ⟨fv, hfv, hZ4⟩ : ∃ fv : Value, (fv = .null ∨ ∃ a, fv = .ref a) ∧ va_Z "jdk/internal/util/Preconditions" "SIOOBE_FORMATTER" "Ljava/util/function/BiFunction;" fv (fun q : Nat => s.heap.size ≤ q) s s.heap := by
    rcases va_Zqof (A := fun q : Nat => s.heap.size ≤ q) (hts _ cw_t4) (hts _ cw_t7) (hfl _ cw_f9.2.2.2.2.2) hAb with q | ⟨t, q⟩
    · exact ⟨_, Or.inl rfl, q⟩
    · exact ⟨_, Or.inr ⟨t, rfl⟩, q⟩
  obtain ⟨E, hE⟩ : ∃ E : cw_E, E = ((fun t => (dCI t).1, fun t => (dCI t).2), dA, s.heap.size, (fun n => if n = 1 then b else if n = 2 then t2 else if n = 3 then t3 else if n < 15 then adK (n - 4) else adV (n - 15)), fv) := ⟨_, rfl⟩
  have hAA : cw_AA E = (fun q : Nat => s.heap.size ≤ q) := by rw [hE]; rfl
  have ad1 : cw_ad E (cw_scr L) = b := by
    unfold cw_ad
    rw [if_pos (by unfold cw_scr; omega), show (cw_ce (cw_scr L)).toNat = 1 by unfold cw_ce cw_scr; omega, hE]
    rfl
  have ad2 : cw_ad E cw_TREES = t2 := by
    unfold cw_ad
    rw [if_pos (by decide), show (cw_ce cw_TREES).toNat = 2 by decide, hE]
    rfl
  have ad3 : cw_ad E cw_TERM = t3 := by
    unfold cw_ad
    rw [if_pos (by decide), show (cw_ce cw_TERM).toNat = 3 by decide, hE]
    rfl
  have ad4 : ∀ i : Nat, i < 11 → cw_ad E (cw_sc i) = adK i := by
    intro i hi
    unfold cw_ad
    rw [if_pos (by unfold cw_sc; omega), show (cw_ce (cw_sc i)).toNat = 4 + i by rw [(cw_sc_ne hi L).2.2.2]; omega, hE]
    show (if 4 + i = 1 then b else if 4 + i = 2 then t2 else if 4 + i = 3 then t3 else if 4 + i < 15 then adK (4 + i - 4) else adV (4 + i - 15)) = adK i
    rw [if_neg (by omega), if_neg (by omega), if_neg (by omega), if_pos (by omega), show 4 + i - 4 = i by omega]
  have ad5 : ∀ i : Nat, i < 11 → cw_ad E (cw_bc i) = adV i := by
    intro i hi
    have hb2 : cw_bl i < 64 := by unfold cw_bl; split <;> omega
    unfold cw_ad
    rw [if_pos (by unfold cw_bc; omega), show (cw_ce (cw_bc i)).toNat = 15 + i by rw [(cw_bc_tg hi).2]; omega, hE]
    show (if 15 + i = 1 then b else if 15 + i = 2 then t2 else if 15 + i = 3 then t3 else if 15 + i < 15 then adK (15 + i - 4) else adV (15 + i - 15)) = adV i
    rw [if_neg (by omega), if_neg (by omega), if_neg (by omega), if_neg (by omega), show 15 + i - 15 = i by omega]
  have hfvE : E.2.2.2.2 = fv := by rw [hE]
  have hbase : E.2.2.1 = s.heap.size := by rw [hE]
  have h0 : cw_m0 E L (cw_mi L xs) := ⟨cw_mi_r L xs, fun i hi => cw_mi_s hi, by rw [hfvE]; exact hfv, hL⟩
  have hKV : cw_KV E s := by
    refine ⟨⟨fun t q hq => ?_, fun k q hk => ?_⟩, fun w hw => va_Nw.of (cw_nw_ok w hw).2 (hts _ (cw_nw_ok w hw).1), va_AO.of (hts _ cw_t8), va_AO.of (hts _ cw_t9), fun w hw => ?_⟩
    · have ht : t < 11 := (List.getElem?_eq_some_iff.mp hq).1
      rw [cw_clsat ht] at hq
      cases hq
      rw [hE]
      exact hdCI t ht
    · rw [hE] at hk
      match k, hk with
      | 0, hk => cases hk; exact hdA 0 (by decide)
      | 1, hk => cases hk; exact hdA 1 (by decide)
      | 2, hk => cases hk; exact hdA 2 (by decide)
      | 3, hk => cases hk; exact hdA 3 (by decide)
      | 4, hk => cases hk; exact hdA 4 (by decide)
      | 5, hk => cases hk; exact hdA 5 (by decide)
      | k + 6, hk => cases hk
    · obtain ⟨g1, g2, g3⟩ := cw_si_ok w hw
      have g4 := cw_LS0_ok w hw
      have g5 := hSe w.2.2.2 g3
      have g6 : (Cond.stringRef (cw_cn w.2.1) w.2.2.1 (cw_sx w.2.2.2)).before #[Value.ref b] s = true := hts _ (cw_tw g4)
      rw [ad4 _ g3]
      unfold cw_tm at g5
      rw [← g2, ← g1] at g5
      exact vk_R.of g6 g5
  have hKH : cw_KH E L (cw_mi L xs) s s.heap := by
    unfold cw_KH
    rw [hAA, ad2, ad3, hfvE]
    refine ⟨va_Zof (hts _ cw_t1) (hts _ cw_t5) e2 hAb, va_Zof (hts _ cw_t2) (hts _ cw_t5) e3 hAb, va_Zof (hts _ cw_t3) (hts _ cw_t6) (va_eqi (hfl _ cw_f9.2.2.2.2.1)) hAb, hZ4, fun q hq => ?_, fun i hi => ?_⟩
    · unfold cw_ca at hq
      rcases List.mem_cons.mp hq with rfl | hq
      · obtain ⟨scr, k1, k2, k3, k4, k5⟩ := hX
        show va_T .int (cw_ad E (cw_scr L)) L (fun j => cw_tv E (vi (cw_mi L xs (cw_scr L) j))) _ s s.heap
        rw [ad1]
        refine ⟨scr, k1, k2, k3, by omega, by rw [k4], fun j hj => ?_, hAb b hbl⟩
        rw [k5 j hj]
        show some (Value.int (xs j)) = some (Value.int (Int32.ofInt (cw_mi L xs (cw_scr L) j)))
        unfold cw_mi
        rw [if_pos rfl, if_pos ⟨by omega, by omega⟩, cw_ofti]
        rfl
      · rcases List.mem_cons.mp hq with rfl | hq
        · show va_T .int (cw_ad E cw_TREES) 7 (fun j => cw_tv E (vi (cw_mi L xs cw_TREES j))) _ s s.heap
          rw [ad2]
          refine cw_vaT hT2 (fun j hj => ?_)
          show Value.int _ = Value.int (Int32.ofInt (cw_mi L xs cw_TREES j))
          rw [cw_mi_k (by show (2097640 : Int) ≠ _; unfold cw_scr; omega)]
          unfold cw_k0
          rw [if_pos rfl, if_neg (by omega)]
          rfl
        · rcases List.mem_cons.mp hq with rfl | hq
          · show va_T .int (cw_ad E cw_TERM) 4 (fun j => cw_tv E (vi (cw_mi L xs cw_TERM j))) _ s s.heap
            rw [ad3]
            refine cw_vaT hT3 (fun j hj => ?_)
            show Value.int _ = Value.int (Int32.ofInt (cw_mi L xs cw_TERM j))
            rw [cw_mi_k (by show (3146024 : Int) ≠ _; unfold cw_scr; omega)]
            unfold cw_k0
            rw [if_neg (by decide), if_pos rfl, if_neg (by omega)]
            rfl
          · obtain ⟨i, hi, rfl⟩ := List.mem_map.mp hq
            have hi := List.mem_range.mp hi
            show va_T .byte (cw_ad E (cw_bc i)) (cw_bl i) (fun j => cw_tv E (vi (cw_mi L xs (cw_bc i) j))) _ s s.heap
            rw [ad5 i hi]
            have g := (hSS.1 i hi).2.2.2
            rw [cw_lens_eq i hi] at g
            refine cw_vaT g (fun j hj => ?_)
            show Value.int _ = Value.int (Int32.ofInt (cw_mi L xs (cw_bc i) j))
            rw [cw_mi_b hi, cw_byl_eq i hi j hj]
    · rw [ad4 i hi, ad5 i hi]
      obtain ⟨g1, g2, g3, -⟩ := hSS.1 i hi
      exact ⟨g1, g3, g2⟩
  have hrep : cw_rep E L (cw_mi L xs) (cw_mi L xs) s.heap := by
    obtain ⟨q0, -⟩ := cw_mi_0 L xs
    refine ⟨⟨by rw [q0]; decide, by rw [q0, hbase]; simp⟩, fun q hq => ?_, fun _ _ _ _ => rfl⟩
    obtain ⟨g1, g2, -⟩ := hq
    rw [q0] at g2
    have := cw_ce32 g1
    omega
  have X : cw_X p s m #[Value.ref b] meth c E L (cw_mi L xs) 4 k_L_law := ⟨hx, hb, hml, hr, hlocks, hown, hT, hKV, hKH, h0, (fun q => absurd q (by decide)), by rw [hbase]; exact Nat.le_refl _⟩
  obtain ⟨n, hn⟩ := hA
  obtain ⟨rF, mF, ⟨hrF, hc1, hc2⟩, hn⟩ := cw_Rn_one n hn
  obtain ⟨q0, q1⟩ := cw_mi_0 L xs
  have hl := lv_entry ([Value.ref b]) (n := 4) (Nat.le_of_ble_eq_true rfl)
  have W0 := cw_walk (l := l) (e := e) (R := room_1) (below := below) (Z := lw_Z below #[Value.ref b] s) (mE := cw_mi L xs) (mF := mF) (d := d) (rF := rF) X ⟨by decide, by decide⟩ ⟨by show _ ≤ 600000; omega, by show _ ≤ 7302250; omega⟩ ⟨by show d + 1 ≤ 2048; omega, by show 64 * (d + 1) ≤ 84000; omega⟩ (fun pc ls st r m2 hr2 hs => by
      obtain ⟨rfl, rfl⟩ := hr2
      intro H locs LS J
      rcases hs with ⟨-, -, -, h4⟩ | ⟨k, v, h1, -, -, h4, h5⟩ | ⟨v, -, -, -, h5⟩ | ⟨v, ty, -, -, -, -, h5⟩
      · rw [hrF] at h4; cases h4
      · rw [hrF] at h5
        cases h5
        subst h4
        refine va_forget (fun q hq => ?_) ?_
        · have := J.2.1.2.2 q hq
          rw [hAA] at this
          exact this
        · refine W.widen (k := 600000) (n := 7302250) (by omega) (by omega) ?_
          exact lw_ret hx hb hr hlocks h1
      · rw [hrF] at h5; cases h5
      · rw [hrF] at h5; cases h5) n (fun k hk z bs m1 Q' z1 z2 hcs1 h1 => by
      match d, h1 with
      | d + 1, h1 =>
        obtain ⟨r, m', hq, h2⟩ := cw_Rn_one k h1
        exact ⟨r, m', hq, cw_Rn_lm k z1 (by omega) h2, d, rfl, cw_met h0 k d z bs m1 m' r z1 z2 hcs1 h2⟩) 0 _ [] (cw_mi L xs) hn
  rw [lg_entry_eq]
  generalize (lg_sl ([Value.ref b]) ++ List.replicate (4 - (lg_sl ([Value.ref b])).length) Slot.unset).toArray = LS at hl ⊢
  have hav : [vr (cw_scr L)].map (cw_tv E) = [Value.ref b] := by
    show [cw_rv E (cw_scr L)] = [Value.ref b]
    rw [cw_kr_nz (L := L) (m := cw_mi L xs) (by rw [cw_scr_tg]; decide), ad1]
  have W1 := W0 s.heap [] LS ⟨hrep, va_S.rf, ⟨⟨hl.1, hl.2.1⟩, Nat.le_of_eq (cw_en_len (E := E) [vr (cw_scr L)] _ (Nat.le_of_ble_eq_true rfl)), fun i v hv => by
      have h1 := (cw_en_arg h0 [vr (cw_scr L)] _ 0 i v hv).1
      rw [hav, show 0 + i = i by omega] at h1
      exact hl.2.2 _ h1⟩, fun v hv => (by cases hv), fun i v hv => by
      have h1 := (cw_en_arg h0 [vr (cw_scr L)] _ 0 i v hv).2
      rw [List.mem_singleton.mp h1]
      exact Or.inr (Or.inr (Or.inr ⟨_, List.mem_cons_self, rfl⟩)), Int.le_refl _, Int.le_refl _⟩
  rw [show (cw_mi L xs (-1) 0 - cw_mi L xs (-1) 0).toNat = 0 by omega, show (cw_mi L xs (-1) 1 - cw_mi L xs (-1) 1).toNat = 0 by omega] at W1
  exact W1
