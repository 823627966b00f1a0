/-! The reference reads clauses (wip/whole/tools/m72.py). -/
theorem M_readTwo1 {d : Nat} {m : cw_M} {Q : Option cw_V → cw_M → Prop} {c v pl : Int → Int} {o : Bool} {n : Int} (hm0 : la_ok m) (hY : Y_h m c v pl o n) {i l : Int} (h0 : 0 ≤ i) (h1 : i ≤ n) (hl0 : 0 ≤ l) (hl1 : l ≤ 50) {w : Int} (hw : w ≠ 0) (hok : ∀ i1 l1 A i2 l2 B, p_s c v o 2100 3 0 i l p_z = .ok (i1, l1, A) → c i1 = w → p_s c v o 2100 3 0 (i1 + 1) l1 p_z = .ok (i2, l2, B) → Q none (y_m m i2 l2 (-1))) (he1 : ∀ er tk lv bd, p_s c v o 2100 3 0 i l p_z = .error er → bd = pl er → 0 ≤ bd → Q none (y_m m tk lv bd)) (he2 : ∀ i1 l1 A tk lv bd, p_s c v o 2100 3 0 i l p_z = .ok (i1, l1, A) → c i1 ≠ w → bd = pl i1 → 0 ≤ bd → Q none (y_m m tk lv bd)) (he3 : ∀ i1 l1 A er tk lv bd, p_s c v o 2100 3 0 i l p_z = .ok (i1, l1, A) → c i1 = w → p_s c v o 2100 3 0 (i1 + 1) l1 p_z = .error er → bd = pl er → 0 ≤ bd → Q none (y_m m tk lv bd)) : cw_C (d + 33) k_M_readTwo [vr m_, vi w] (y_m m i l (-1)) Q := by
  have hm : la_ok (y_m m i l (-1)) := y_m_ok hm0
  have yn := hY.1
  have y := hY.2.2.1 i h0 h1
  have ltn : ∀ z, 0 ≤ z → z ≤ n → c z ≠ 0 → z < n := fun z _ _ q => by
    by_cases e : z = n
    · rw [e, hY.2.1] at q; exact absurd rfl q
    · omega
  refine la_go_C hm 13 [] ?_
  show cw_C _ _ [vr m_, vi 0] (y_m m i l (-1)) _
  refine (M_readS hm0 hY 2100).2.2.2.1 _ 0 i l p_z _ (by omega) (by omega) (by omega) (by omega) (by omega) (by omega) (by omega) (by omega) (fun (i1 l1 : Int) (D1 : p_D) (e1 : p_s c v o 2100 3 0 i l p_z = .ok (i1, l1, D1)) => ⟨(y_m_ok hm0), ?_⟩) (fun (r1 t1 u1 b1 : Int) (e1 : p_s c v o 2100 3 0 i l p_z = .error r1) (eb1 : b1 = pl r1) (nb1 : 0 ≤ b1) => ⟨(y_m_ok hm0), ?_⟩)
  · have N1 := p_Nok ((p_sN (c := c) (v := v) (o := o) hY.2.1 2100 (dp := 0) (i := i) (l := l) (acc := p_z) (by omega) (by omega) (by omega) (by omega)).2.2.2.1 (by omega)) e1
    have S1 := N1.2.2.2.2 rfl
    have L1 : c i1 ≠ 0 → i1 < n := ltn _ (by omega) (by omega)
    show cw_C _ _ [vr m_, vi w] (y_m m i1 l1 (-1)) _
    refine M_must1 hm0 hY (by omega) (by omega) (fun (a2 : c i1 = w) => ⟨(y_m_ok hm0), ?_⟩) (fun (a2 : c i1 ≠ w) (b3 : Int) (eb3 : b3 = pl i1) (nb3 : 0 ≤ b3) => ⟨(y_m_ok hm0), ?_⟩)
    · show cw_C _ _ [vr m_, vi 0] (y_m m (i1 + 1) l1 (-1)) _
      refine (M_readS hm0 hY 2100).2.2.2.1 _ 0 (i1 + 1) l1 p_z _ (by omega) (by omega) (by omega) (by omega) (by omega) (by omega) (by omega) (by omega) (fun (i4 l4 : Int) (D4 : p_D) (e4 : p_s c v o 2100 3 0 (i1 + 1) l1 p_z = .ok (i4, l4, D4)) => ⟨(y_m_ok hm0), ?_⟩) (fun (r4 t4 u4 b4 : Int) (e4 : p_s c v o 2100 3 0 (i1 + 1) l1 p_z = .error r4) (eb4 : b4 = pl r4) (nb4 : 0 ≤ b4) => ⟨(y_m_ok hm0), ?_⟩)
      · have N4 := p_Nok ((p_sN (c := c) (v := v) (o := o) hY.2.1 2100 (dp := 0) (i := i1 + 1) (l := l1) (acc := p_z) (by omega) (by omega) (by omega) (by omega)).2.2.2.1 (by omega)) e4
        have S4 := N4.2.2.2.2 rfl
        have L4 : c i4 ≠ 0 → i4 < n := ltn _ (by omega) (by omega)
        show Q none (y_m m i4 l4 (-1))
        exact hok _ _ _ _ _ _ e1 (by omega) e4
      · show Q none (y_m m t4 u4 b4)
        exact he3 _ _ _ _ _ _ _ e1 (by omega) e4 eb4 nb4
    · show cw_C _ _ [vr m_, vi 0] (y_m m i1 l1 b3) _
      refine M_readSum0 hm0 (by omega) ⟨(y_m_ok hm0), ?_⟩
      show Q none (y_m m i1 l1 b3)
      exact he2 _ _ _ _ _ _ e1 (by omega) eb3 nb3
  · show cw_C _ _ [vr m_, vi w] (y_m m t1 u1 b1) _
    refine M_must0 hm0 (by omega) ⟨(y_m_ok hm0), ?_⟩
    show cw_C _ _ [vr m_, vi 0] (y_m m t1 u1 b1) _
    refine M_readSum0 hm0 (by omega) ⟨(y_m_ok hm0), ?_⟩
    show Q none (y_m m t1 u1 b1)
    exact he1 _ _ _ _ e1 eb1 nb1
theorem p_oneL {c v : Int → Int} {i l : Int} : p_one c v false i l = (if c i = 1 ∨ c i = 2 then (match p_s c v false 2100 3 0 (i + 1) l p_z with
    | .error e => .error e
    | .ok (i1, l1, A) => p_ift c v false (c i - 1) A p_z 1 i1 l1) else if c i = 3 then p_ift c v false 2 p_z p_z 1 (i + 1) l else .error i) := rfl
theorem p_oneO {c v : Int → Int} {i l : Int} : p_one c v true i l = (if c i = 20 then p_two c v true 0 22 i l else if c i = 23 then p_two c v true 1 24 i l else if c i = 25 then (match p_s c v true 2100 3 0 (i + 1) l p_z with
    | .error e => .error e
    | .ok (i1, l1, A) => p_tim c v true 2 A p_z i1 l1) else if c i = 26 then p_tim c v true 3 p_z p_z (i + 1) l else .error i) := rfl
theorem M_readClause1 {d : Nat} {m : cw_M} {Q : Option cw_V → cw_M → Prop} {c v pl : Int → Int} {n : Int} (hm0 : la_ok m) (hY : Y_h m c v pl false n) {i l : Int} (h0 : 0 ≤ i) (h1 : i ≤ n) (hl0 : 0 ≤ l) (hl1 : l ≤ 50) (hok : ∀ i1 l1 K, p_one c v false i l = .ok (i1, l1, K) → Q none (y_m m i1 l1 (-1))) (her : ∀ er tk lv bd, p_one c v false i l = .error er → bd = pl er → 0 ≤ bd → Q none (y_m m tk lv bd)) : cw_C (d + 40) k_M_readClause [vr m_] (y_m m i l (-1)) Q := by
  have hm : la_ok (y_m m i l (-1)) := y_m_ok hm0
  have yn := hY.1
  have y := hY.2.2.1 i h0 h1
  have ltn : ∀ z, 0 ≤ z → z ≤ n → c z ≠ 0 → z < n := fun z _ _ q => by
    by_cases e : z = n
    · rw [e, hY.2.1] at q; exact absurd rfl q
    · omega
  have lt0 : c i ≠ 0 → i < n := ltn _ h0 h1
  have lt1 : i + 1 ≤ n → c (i + 1) ≠ 0 → i + 1 < n := fun a => ltn _ (by omega) a
  refine la_go_C hm 23 [] ?_
  show cw_C _ _ [vr m_, vi 1] (y_m m i l (-1)) _
  refine M_takes01 hm0 hY (by omega) (by omega) (fun (a1 : c i = 1) => ⟨(y_m_ok hm0), ?_⟩) (fun (a1 : c i ≠ 1) => ⟨hm, ?_⟩)
  · refine br_t (show (1 : Int) ≠ 0 by decide) ?_
    show cw_C _ _ [vr m_, vi 0] (y_m m (i + 1) l (-1)) _
    refine (M_readS hm0 hY 2100).2.2.2.1 _ 0 (i + 1) l p_z _ (by omega) (by omega) (by omega) (by omega) (by omega) (by omega) (by omega) (by omega) (fun (i2 l2 : Int) (D2 : p_D) (e2 : p_s c v false 2100 3 0 (i + 1) l p_z = .ok (i2, l2, D2)) => ⟨(y_m_ok hm0), ?_⟩) (fun (r2 t2 u2 b2 : Int) (e2 : p_s c v false 2100 3 0 (i + 1) l p_z = .error r2) (eb2 : b2 = pl r2) (nb2 : 0 ≤ b2) => ⟨(y_m_ok hm0), ?_⟩)
    · have N2 := p_Nok ((p_sN (c := c) (v := v) (o := false) hY.2.1 2100 (dp := 0) (i := i + 1) (l := l) (acc := p_z) (by omega) (by omega) (by omega) (by omega)).2.2.2.1 (by omega)) e2
      have S2 := N2.2.2.2.2 rfl
      have L2 : c i2 ≠ 0 → i2 < n := ltn _ (by omega) (by omega)
      show cw_C _ _ [vr m_, vi 4] (y_m m i2 l2 (-1)) _
      refine M_takes01 hm0 hY (by omega) (by omega) (fun (a3 : c i2 = 4) => ⟨(y_m_ok hm0), ?_⟩) (fun (a3 : c i2 ≠ 4) => ⟨(y_m_ok hm0), ?_⟩)
      · refine br_f (show ¬ ((1 : Int) = 0) by decide) ?_
        show cw_C _ _ [vr m_, vi 0] (y_m m (i2 + 1) l2 (-1)) _
        refine (M_readT hm0 hY 2100).2.2.2.1 _ 0 (i2 + 1) l2 p_z false _ (by omega) (by omega) (by omega) (by omega) (by omega) (by omega) (by omega) (by omega) (fun (i4 l4 : Int) (D4 : p_D) (e4 : p_t c v false 2100 3 0 (i2 + 1) l2 p_z false = .ok (i4, l4, D4)) => ⟨(y_m_ok hm0), ?_⟩) (fun (r4 t4 u4 b4 : Int) (e4 : p_t c v false 2100 3 0 (i2 + 1) l2 p_z false = .error r4) (eb4 : b4 = pl r4) (nb4 : 0 ≤ b4) => ⟨(y_m_ok hm0), ?_⟩)
        · have N4 := p_Nok ((p_tN (c := c) (v := v) (o := false) hY.2.1 2100 (dp := 0) (i := i2 + 1) (l := l2) (acc := p_z) (ng := false) (by omega) (by omega) (by omega) (by omega)).2.2.2.1 (by omega)) e4
          show Q none (y_m m i4 l4 (-1))
          exact hok _ _ _ (by rw [p_oneL, if_pos (by omega), e2]; show p_ift _ _ _ _ _ _ _ _ _ = _; unfold p_ift; rw [if_pos (by omega), e4])
        · show Q none (y_m m t4 u4 b4)
          exact her _ _ _ _ (by rw [p_oneL, if_pos (by omega), e2]; show p_ift _ _ _ _ _ _ _ _ _ = _; unfold p_ift; rw [if_pos (by omega), e4]) eb4 nb4
      · refine br_t (show (0 : Int) = 0 by decide) ?_
        show Q none (y_m m i2 l2 (-1))
        exact hok _ _ _ (by rw [p_oneL, if_pos (by omega), e2]; show p_ift _ _ _ _ _ _ _ _ _ = _; unfold p_ift; rw [if_neg (by omega)])
    · show cw_C _ _ [vr m_, vi 4] (y_m m t2 u2 b2) _
      refine M_takes00 hm0 (by omega) ⟨(y_m_ok hm0), ?_⟩
      refine br_t (show (0 : Int) = 0 by decide) ?_
      show Q none (y_m m t2 u2 b2)
      exact her _ _ _ _ (by rw [p_oneL, if_pos (by omega), e2]) eb2 nb2
  · refine br_f (show ¬ ((0 : Int) ≠ 0) by decide) ?_
    show cw_C _ _ [vr m_, vi 2] (y_m m i l (-1)) _
    refine M_takes01 hm0 hY (by omega) (by omega) (fun (a5 : c i = 2) => ⟨(y_m_ok hm0), ?_⟩) (fun (a5 : c i ≠ 2) => ⟨hm, ?_⟩)
    · refine br_f (show ¬ ((1 : Int) = 0) by decide) ?_
      show cw_C _ _ [vr m_, vi 0] (y_m m (i + 1) l (-1)) _
      refine (M_readS hm0 hY 2100).2.2.2.1 _ 0 (i + 1) l p_z _ (by omega) (by omega) (by omega) (by omega) (by omega) (by omega) (by omega) (by omega) (fun (i6 l6 : Int) (D6 : p_D) (e6 : p_s c v false 2100 3 0 (i + 1) l p_z = .ok (i6, l6, D6)) => ⟨(y_m_ok hm0), ?_⟩) (fun (r6 t6 u6 b6 : Int) (e6 : p_s c v false 2100 3 0 (i + 1) l p_z = .error r6) (eb6 : b6 = pl r6) (nb6 : 0 ≤ b6) => ⟨(y_m_ok hm0), ?_⟩)
      · have N6 := p_Nok ((p_sN (c := c) (v := v) (o := false) hY.2.1 2100 (dp := 0) (i := i + 1) (l := l) (acc := p_z) (by omega) (by omega) (by omega) (by omega)).2.2.2.1 (by omega)) e6
        have S6 := N6.2.2.2.2 rfl
        have L6 : c i6 ≠ 0 → i6 < n := ltn _ (by omega) (by omega)
        show cw_C _ _ [vr m_, vi 4] (y_m m i6 l6 (-1)) _
        refine M_takes01 hm0 hY (by omega) (by omega) (fun (a7 : c i6 = 4) => ⟨(y_m_ok hm0), ?_⟩) (fun (a7 : c i6 ≠ 4) => ⟨(y_m_ok hm0), ?_⟩)
        · refine br_f (show ¬ ((1 : Int) = 0) by decide) ?_
          show cw_C _ _ [vr m_, vi 0] (y_m m (i6 + 1) l6 (-1)) _
          refine (M_readT hm0 hY 2100).2.2.2.1 _ 0 (i6 + 1) l6 p_z false _ (by omega) (by omega) (by omega) (by omega) (by omega) (by omega) (by omega) (by omega) (fun (i8 l8 : Int) (D8 : p_D) (e8 : p_t c v false 2100 3 0 (i6 + 1) l6 p_z false = .ok (i8, l8, D8)) => ⟨(y_m_ok hm0), ?_⟩) (fun (r8 t8 u8 b8 : Int) (e8 : p_t c v false 2100 3 0 (i6 + 1) l6 p_z false = .error r8) (eb8 : b8 = pl r8) (nb8 : 0 ≤ b8) => ⟨(y_m_ok hm0), ?_⟩)
          · have N8 := p_Nok ((p_tN (c := c) (v := v) (o := false) hY.2.1 2100 (dp := 0) (i := i6 + 1) (l := l6) (acc := p_z) (ng := false) (by omega) (by omega) (by omega) (by omega)).2.2.2.1 (by omega)) e8
            show Q none (y_m m i8 l8 (-1))
            exact hok _ _ _ (by rw [p_oneL, if_pos (by omega), e6]; show p_ift _ _ _ _ _ _ _ _ _ = _; unfold p_ift; rw [if_pos (by omega), e8])
          · show Q none (y_m m t8 u8 b8)
            exact her _ _ _ _ (by rw [p_oneL, if_pos (by omega), e6]; show p_ift _ _ _ _ _ _ _ _ _ = _; unfold p_ift; rw [if_pos (by omega), e8]) eb8 nb8
        · refine br_t (show (0 : Int) = 0 by decide) ?_
          show Q none (y_m m i6 l6 (-1))
          exact hok _ _ _ (by rw [p_oneL, if_pos (by omega), e6]; show p_ift _ _ _ _ _ _ _ _ _ = _; unfold p_ift; rw [if_neg (by omega)])
      · show cw_C _ _ [vr m_, vi 4] (y_m m t6 u6 b6) _
        refine M_takes00 hm0 (by omega) ⟨(y_m_ok hm0), ?_⟩
        refine br_t (show (0 : Int) = 0 by decide) ?_
        show Q none (y_m m t6 u6 b6)
        exact her _ _ _ _ (by rw [p_oneL, if_pos (by omega), e6]) eb6 nb6
    · refine br_t (show (0 : Int) = 0 by decide) ?_
      show cw_C _ _ [vr m_, vi 3] (y_m m i l (-1)) _
      refine M_must1 hm0 hY (by omega) (by omega) (fun (a9 : c i = 3) => ⟨(y_m_ok hm0), ?_⟩) (fun (a9 : c i ≠ 3) (b10 : Int) (eb10 : b10 = pl i) (nb10 : 0 ≤ b10) => ⟨(y_m_ok hm0), ?_⟩)
      · show cw_C _ _ [vr m_, vi 4] (y_m m (i + 1) l (-1)) _
        refine M_takes01 hm0 hY (by omega) (by omega) (fun (a11 : c (i + 1) = 4) => ⟨(y_m_ok hm0), ?_⟩) (fun (a11 : c (i + 1) ≠ 4) => ⟨(y_m_ok hm0), ?_⟩)
        · refine br_f (show ¬ ((1 : Int) = 0) by decide) ?_
          show cw_C _ _ [vr m_, vi 0] (y_m m ((i + 1) + 1) l (-1)) _
          refine (M_readT hm0 hY 2100).2.2.2.1 _ 0 ((i + 1) + 1) l p_z false _ (by omega) (by omega) (by omega) (by omega) (by omega) (by omega) (by omega) (by omega) (fun (i12 l12 : Int) (D12 : p_D) (e12 : p_t c v false 2100 3 0 ((i + 1) + 1) l p_z false = .ok (i12, l12, D12)) => ⟨(y_m_ok hm0), ?_⟩) (fun (r12 t12 u12 b12 : Int) (e12 : p_t c v false 2100 3 0 ((i + 1) + 1) l p_z false = .error r12) (eb12 : b12 = pl r12) (nb12 : 0 ≤ b12) => ⟨(y_m_ok hm0), ?_⟩)
          · have N12 := p_Nok ((p_tN (c := c) (v := v) (o := false) hY.2.1 2100 (dp := 0) (i := (i + 1) + 1) (l := l) (acc := p_z) (ng := false) (by omega) (by omega) (by omega) (by omega)).2.2.2.1 (by omega)) e12
            show Q none (y_m m i12 l12 (-1))
            exact hok _ _ _ (by rw [p_oneL, if_neg (by omega), if_pos (by omega)]; unfold p_ift; rw [if_pos (by omega), e12])
          · show Q none (y_m m t12 u12 b12)
            exact her _ _ _ _ (by rw [p_oneL, if_neg (by omega), if_pos (by omega)]; unfold p_ift; rw [if_pos (by omega), e12]) eb12 nb12
        · refine br_t (show (0 : Int) = 0 by decide) ?_
          show Q none (y_m m (i + 1) l (-1))
          exact hok _ _ _ (by rw [p_oneL, if_neg (by omega), if_pos (by omega)]; unfold p_ift; rw [if_neg (by omega)])
      · show cw_C _ _ [vr m_, vi 4] (y_m m i l b10) _
        refine M_takes00 hm0 (by omega) ⟨(y_m_ok hm0), ?_⟩
        refine br_t (show (0 : Int) = 0 by decide) ?_
        show Q none (y_m m i l b10)
        exact her _ _ _ _ (by rw [p_oneL, if_neg (by omega), if_neg (by omega)]) eb10 nb10
theorem p_12 {x : Int} : x + 1 + 1 = x + 2 := by omega
theorem M_readOrder1 {d : Nat} {m : cw_M} {Q : Option cw_V → cw_M → Prop} {c v pl : Int → Int} {n : Int} (hm0 : la_ok m) (hY : Y_h m c v pl true n) {i l : Int} (h0 : 0 ≤ i) (h1 : i ≤ n) (hl0 : 0 ≤ l) (hl1 : l ≤ 50) (hok : ∀ i1 l1 K, p_one c v true i l = .ok (i1, l1, K) → Q none (y_m m i1 l1 (-1))) (her : ∀ er tk lv bd, p_one c v true i l = .error er → bd = pl er → 0 ≤ bd → Q none (y_m m tk lv bd)) : cw_C (d + 45) k_M_readOrder [vr m_] (y_m m i l (-1)) Q := by
  have hm : la_ok (y_m m i l (-1)) := y_m_ok hm0
  have yn := hY.1
  have y := hY.2.2.1 i h0 h1
  have ltn : ∀ z, 0 ≤ z → z ≤ n → c z ≠ 0 → z < n := fun z _ _ q => by
    by_cases e : z = n
    · rw [e, hY.2.1] at q; exact absurd rfl q
    · omega
  have lt0 : c i ≠ 0 → i < n := ltn _ h0 h1
  have lt1 : i + 1 ≤ n → c (i + 1) ≠ 0 → i + 1 < n := fun a => ltn _ (by omega) a
  have lt2 : ∀ z, 0 ≤ z → z ≤ n → c z = 13 → c (z + 1) = 50 → z + 1 < n := fun z a b e1 e2 => ltn _ (by omega) (by have := ltn z a b (by omega); omega) (by omega)
  refine la_go_C hm 35 [] ?_
  show cw_C _ _ [vr m_, vi 20] (y_m m i l (-1)) _
  refine M_takes01 hm0 hY (by omega) (by omega) (fun (a1 : c i = 20) => ⟨(y_m_ok hm0), ?_⟩) (fun (a1 : c i ≠ 20) => ⟨hm, ?_⟩)
  · refine br_f (show ¬ ((1 : Int) = 0) by decide) ?_
    show cw_C _ _ [vr m_, vi 22] (y_m m (i + 1) l (-1)) _
    refine M_readTwo1 hm0 hY (by omega) (by omega) (by omega) (by omega) (by decide) (fun (i2 l2 : Int) (A2 : p_D) (j2 q2 : Int) (B2 : p_D) (e2 : p_s c v true 2100 3 0 (i + 1) l p_z = .ok (i2, l2, A2)) (w2 : c i2 = 22) (f2 : p_s c v true 2100 3 0 (i2 + 1) l2 p_z = .ok (j2, q2, B2)) => ⟨(y_m_ok hm0), ?_⟩) (fun (r2 t2 u2 b2 : Int) (e2 : p_s c v true 2100 3 0 (i + 1) l p_z = .error r2) (eb2 : b2 = pl r2) (nb2 : 0 ≤ b2) => ⟨(y_m_ok hm0), ?_⟩) (fun (i2 l2 : Int) (A2 : p_D) (t2 u2 b2 : Int) (e2 : p_s c v true 2100 3 0 (i + 1) l p_z = .ok (i2, l2, A2)) (w2 : c i2 ≠ 22) (eb2 : b2 = pl i2) (nb2 : 0 ≤ b2) => ⟨(y_m_ok hm0), ?_⟩) (fun (i2 l2 : Int) (A2 : p_D) (r2 t2 u2 b2 : Int) (e2 : p_s c v true 2100 3 0 (i + 1) l p_z = .ok (i2, l2, A2)) (w2 : c i2 = 22) (f2 : p_s c v true 2100 3 0 (i2 + 1) l2 p_z = .error r2) (eb2 : b2 = pl r2) (nb2 : 0 ≤ b2) => ⟨(y_m_ok hm0), ?_⟩)
    · have N2 := p_Nok ((p_sN (c := c) (v := v) (o := true) hY.2.1 2100 (dp := 0) (i := i + 1) (l := l) (acc := p_z) (by omega) (by omega) (by omega) (by omega)).2.2.2.1 (by omega)) e2
      have L2 : i2 < n := ltn _ (by omega) (by omega) (by omega)
      have R2 := p_Nok ((p_sN (c := c) (v := v) (o := true) hY.2.1 2100 (dp := 0) (i := i2 + 1) (l := l2) (acc := p_z) (by omega) (by omega) (by omega) (by omega)).2.2.2.1 (by omega)) f2
      have K2 : c j2 ≠ 0 → j2 < n := ltn _ (by omega) (by omega)
      show cw_C _ _ [vr m_, vi 13] (y_m m j2 q2 (-1)) _
      refine M_takes01 hm0 hY (by omega) (by omega) (fun (a3 : c j2 = 13) => ⟨(y_m_ok hm0), ?_⟩) (fun (a3 : c j2 ≠ 13) => ⟨(y_m_ok hm0), ?_⟩)
      · refine br_f (show ¬ ((1 : Int) = 0) by decide) ?_
        show cw_C _ _ [vr m_, vi 1, vi 20] (y_m m (j2 + 1) q2 (-1)) _
        refine M_mustNumber1 hm0 hY (by omega) (by omega) (fun (a4 : c (j2 + 1) = 50) (a5 : 1 ≤ v (j2 + 1)) (a6 : v (j2 + 1) ≤ 20) => ⟨(y_m_ok hm0), ?_⟩) (fun (a4 : ¬ (c (j2 + 1) = 50 ∧ 1 ≤ v (j2 + 1) ∧ v (j2 + 1) ≤ 20)) (b7 : Int) (eb7 : b7 = pl (j2 + 1)) (nb7 : 0 ≤ b7) => ⟨(y_m_ok hm0), ?_⟩)
        · have Gm8 : j2 + 1 < n := ltn _ (by omega) (by omega) (by omega)
          rw [show (j2 + 1) + 1 = j2 + 2 by omega]
          have Lm9 : c (j2 + 2) ≠ 0 → j2 + 2 < n := ltn _ (by omega) (by omega)
          show cw_C _ _ [vr m_, vi 4] (y_m m (j2 + 2) q2 (-1)) _
          refine M_takes01 hm0 hY (by omega) (by omega) (fun (a10 : c (j2 + 2) = 4) => ⟨(y_m_ok hm0), ?_⟩) (fun (a10 : c (j2 + 2) ≠ 4) => ⟨(y_m_ok hm0), ?_⟩)
          · refine br_f (show ¬ ((1 : Int) = 0) by decide) ?_
            show cw_C _ _ [vr m_, vi 0] (y_m m ((j2 + 2) + 1) q2 (-1)) _
            refine (M_readT hm0 hY 2100).2.2.2.1 _ 0 ((j2 + 2) + 1) q2 p_z false _ (by omega) (by omega) (by omega) (by omega) (by omega) (by omega) (by omega) (by omega) (fun (i11 l11 : Int) (D11 : p_D) (e11 : p_t c v true 2100 3 0 ((j2 + 2) + 1) q2 p_z false = .ok (i11, l11, D11)) => ⟨(y_m_ok hm0), ?_⟩) (fun (r11 t11 u11 b11 : Int) (e11 : p_t c v true 2100 3 0 ((j2 + 2) + 1) q2 p_z false = .error r11) (eb11 : b11 = pl r11) (nb11 : 0 ≤ b11) => ⟨(y_m_ok hm0), ?_⟩)
            · have N11 := p_Nok ((p_tN (c := c) (v := v) (o := true) hY.2.1 2100 (dp := 0) (i := (j2 + 2) + 1) (l := q2) (acc := p_z) (ng := false) (by omega) (by omega) (by omega) (by omega)).2.2.2.1 (by omega)) e11
              show Q none (y_m m i11 l11 (-1))
              first
                | exact hok _ _ _ (by rw [p_oneO, if_pos (by omega)]; unfold p_two; rw [e2]; show (if _ then _ else _) = _; rw [if_pos w2, f2]; show p_tim _ _ _ _ _ _ _ _ = _; unfold p_tim; rw [if_neg (by omega)]; unfold p_ift; rw [if_pos (by omega), e11])
                | exact hok _ _ _ (by rw [p_oneO, if_pos (by omega)]; unfold p_two; rw [e2]; show (if _ then _ else _) = _; rw [if_pos w2, f2]; show p_tim _ _ _ _ _ _ _ _ = _; unfold p_tim; rw [if_pos (by omega), if_pos (by omega)]; unfold p_ift; rw [if_pos (by omega), e11])
            · show Q none (y_m m t11 u11 b11)
              first
                | exact her _ _ _ _ (by rw [p_oneO, if_pos (by omega)]; unfold p_two; rw [e2]; show (if _ then _ else _) = _; rw [if_pos w2, f2]; show p_tim _ _ _ _ _ _ _ _ = _; unfold p_tim; rw [if_neg (by omega)]; unfold p_ift; rw [if_pos (by omega), e11]) eb11 nb11
                | exact her _ _ _ _ (by rw [p_oneO, if_pos (by omega)]; unfold p_two; rw [e2]; show (if _ then _ else _) = _; rw [if_pos w2, f2]; show p_tim _ _ _ _ _ _ _ _ = _; unfold p_tim; rw [if_pos (by omega), if_pos (by omega)]; unfold p_ift; rw [if_pos (by omega), e11]) eb11 nb11
          · refine br_t (show (0 : Int) = 0 by decide) ?_
            show Q none (y_m m (j2 + 2) q2 (-1))
            first
              | exact hok _ _ _ (by rw [p_oneO, if_pos (by omega)]; unfold p_two; rw [e2]; show (if _ then _ else _) = _; rw [if_pos w2, f2]; show p_tim _ _ _ _ _ _ _ _ = _; unfold p_tim; rw [if_neg (by omega)]; unfold p_ift; rw [if_neg (by omega)])
              | exact hok _ _ _ (by rw [p_oneO, if_pos (by omega)]; unfold p_two; rw [e2]; show (if _ then _ else _) = _; rw [if_pos w2, f2]; show p_tim _ _ _ _ _ _ _ _ = _; unfold p_tim; rw [if_pos (by omega), if_pos (by omega)]; unfold p_ift; rw [if_neg (by omega)])
        · show cw_C _ _ [vr m_, vi 4] (y_m m (j2 + 1) q2 b7) _
          refine M_takes00 hm0 (by omega) ⟨(y_m_ok hm0), ?_⟩
          refine br_t (show (0 : Int) = 0 by decide) ?_
          show Q none (y_m m (j2 + 1) q2 b7)
          first
            | exact her _ _ _ _ (by rw [p_oneO, if_neg (by omega), if_neg (by omega), if_neg (by omega), if_neg (by omega)]) eb7 nb7
            | exact her _ _ _ _ (by rw [p_oneO, if_pos (by omega)]; unfold p_two; rw [e2]; show (if _ then _ else _) = _; rw [if_pos w2, f2]; show p_tim _ _ _ _ _ _ _ _ = _; unfold p_tim; rw [if_pos (by omega), if_neg (by omega)]) eb7 nb7
      · refine br_t (show (0 : Int) = 0 by decide) ?_
        show cw_C _ _ [vr m_, vi 4] (y_m m j2 q2 (-1)) _
        refine M_takes01 hm0 hY (by omega) (by omega) (fun (a12 : c j2 = 4) => ⟨(y_m_ok hm0), ?_⟩) (fun (a12 : c j2 ≠ 4) => ⟨(y_m_ok hm0), ?_⟩)
        · refine br_f (show ¬ ((1 : Int) = 0) by decide) ?_
          show cw_C _ _ [vr m_, vi 0] (y_m m (j2 + 1) q2 (-1)) _
          refine (M_readT hm0 hY 2100).2.2.2.1 _ 0 (j2 + 1) q2 p_z false _ (by omega) (by omega) (by omega) (by omega) (by omega) (by omega) (by omega) (by omega) (fun (i13 l13 : Int) (D13 : p_D) (e13 : p_t c v true 2100 3 0 (j2 + 1) q2 p_z false = .ok (i13, l13, D13)) => ⟨(y_m_ok hm0), ?_⟩) (fun (r13 t13 u13 b13 : Int) (e13 : p_t c v true 2100 3 0 (j2 + 1) q2 p_z false = .error r13) (eb13 : b13 = pl r13) (nb13 : 0 ≤ b13) => ⟨(y_m_ok hm0), ?_⟩)
          · have N13 := p_Nok ((p_tN (c := c) (v := v) (o := true) hY.2.1 2100 (dp := 0) (i := j2 + 1) (l := q2) (acc := p_z) (ng := false) (by omega) (by omega) (by omega) (by omega)).2.2.2.1 (by omega)) e13
            show Q none (y_m m i13 l13 (-1))
            first
              | exact hok _ _ _ (by rw [p_oneO, if_pos (by omega)]; unfold p_two; rw [e2]; show (if _ then _ else _) = _; rw [if_pos w2, f2]; show p_tim _ _ _ _ _ _ _ _ = _; unfold p_tim; rw [if_neg (by omega)]; unfold p_ift; rw [if_pos (by omega), e13])
              | exact hok _ _ _ (by rw [p_oneO, if_pos (by omega)]; unfold p_two; rw [e2]; show (if _ then _ else _) = _; rw [if_pos w2, f2]; show p_tim _ _ _ _ _ _ _ _ = _; unfold p_tim; rw [if_pos (by omega), if_pos (by omega)]; unfold p_ift; rw [if_pos (by omega), e13])
          · show Q none (y_m m t13 u13 b13)
            first
              | exact her _ _ _ _ (by rw [p_oneO, if_pos (by omega)]; unfold p_two; rw [e2]; show (if _ then _ else _) = _; rw [if_pos w2, f2]; show p_tim _ _ _ _ _ _ _ _ = _; unfold p_tim; rw [if_neg (by omega)]; unfold p_ift; rw [if_pos (by omega), e13]) eb13 nb13
              | exact her _ _ _ _ (by rw [p_oneO, if_pos (by omega)]; unfold p_two; rw [e2]; show (if _ then _ else _) = _; rw [if_pos w2, f2]; show p_tim _ _ _ _ _ _ _ _ = _; unfold p_tim; rw [if_pos (by omega), if_pos (by omega)]; unfold p_ift; rw [if_pos (by omega), e13]) eb13 nb13
        · refine br_t (show (0 : Int) = 0 by decide) ?_
          show Q none (y_m m j2 q2 (-1))
          first
            | exact hok _ _ _ (by rw [p_oneO, if_pos (by omega)]; unfold p_two; rw [e2]; show (if _ then _ else _) = _; rw [if_pos w2, f2]; show p_tim _ _ _ _ _ _ _ _ = _; unfold p_tim; rw [if_neg (by omega)]; unfold p_ift; rw [if_neg (by omega)])
            | exact hok _ _ _ (by rw [p_oneO, if_pos (by omega)]; unfold p_two; rw [e2]; show (if _ then _ else _) = _; rw [if_pos w2, f2]; show p_tim _ _ _ _ _ _ _ _ = _; unfold p_tim; rw [if_pos (by omega), if_pos (by omega)]; unfold p_ift; rw [if_neg (by omega)])
    · show cw_C _ _ [vr m_, vi 13] (y_m m t2 u2 b2) _
      refine M_takes00 hm0 (by omega) ⟨(y_m_ok hm0), ?_⟩
      refine br_t (show (0 : Int) = 0 by decide) ?_
      show cw_C _ _ [vr m_, vi 4] (y_m m t2 u2 b2) _
      refine M_takes00 hm0 (by omega) ⟨(y_m_ok hm0), ?_⟩
      refine br_t (show (0 : Int) = 0 by decide) ?_
      show Q none (y_m m t2 u2 b2)
      exact her _ _ _ _ (by rw [p_oneO, if_pos (by omega)]; unfold p_two; rw [e2]) eb2 nb2
    · show cw_C _ _ [vr m_, vi 13] (y_m m t2 u2 b2) _
      refine M_takes00 hm0 (by omega) ⟨(y_m_ok hm0), ?_⟩
      refine br_t (show (0 : Int) = 0 by decide) ?_
      show cw_C _ _ [vr m_, vi 4] (y_m m t2 u2 b2) _
      refine M_takes00 hm0 (by omega) ⟨(y_m_ok hm0), ?_⟩
      refine br_t (show (0 : Int) = 0 by decide) ?_
      show Q none (y_m m t2 u2 b2)
      exact her _ _ _ _ (by rw [p_oneO, if_pos (by omega)]; unfold p_two; rw [e2]; show (if _ then _ else _) = _; rw [if_neg w2]) eb2 nb2
    · show cw_C _ _ [vr m_, vi 13] (y_m m t2 u2 b2) _
      refine M_takes00 hm0 (by omega) ⟨(y_m_ok hm0), ?_⟩
      refine br_t (show (0 : Int) = 0 by decide) ?_
      show cw_C _ _ [vr m_, vi 4] (y_m m t2 u2 b2) _
      refine M_takes00 hm0 (by omega) ⟨(y_m_ok hm0), ?_⟩
      refine br_t (show (0 : Int) = 0 by decide) ?_
      show Q none (y_m m t2 u2 b2)
      exact her _ _ _ _ (by rw [p_oneO, if_pos (by omega)]; unfold p_two; rw [e2]; show (if _ then _ else _) = _; rw [if_pos w2, f2]) eb2 nb2
  · refine br_t (show (0 : Int) = 0 by decide) ?_
    show cw_C _ _ [vr m_, vi 23] (y_m m i l (-1)) _
    refine M_takes01 hm0 hY (by omega) (by omega) (fun (a14 : c i = 23) => ⟨(y_m_ok hm0), ?_⟩) (fun (a14 : c i ≠ 23) => ⟨hm, ?_⟩)
    · refine br_f (show ¬ ((1 : Int) = 0) by decide) ?_
      show cw_C _ _ [vr m_, vi 24] (y_m m (i + 1) l (-1)) _
      refine M_readTwo1 hm0 hY (by omega) (by omega) (by omega) (by omega) (by decide) (fun (i15 l15 : Int) (A15 : p_D) (j15 q15 : Int) (B15 : p_D) (e15 : p_s c v true 2100 3 0 (i + 1) l p_z = .ok (i15, l15, A15)) (w15 : c i15 = 24) (f15 : p_s c v true 2100 3 0 (i15 + 1) l15 p_z = .ok (j15, q15, B15)) => ⟨(y_m_ok hm0), ?_⟩) (fun (r15 t15 u15 b15 : Int) (e15 : p_s c v true 2100 3 0 (i + 1) l p_z = .error r15) (eb15 : b15 = pl r15) (nb15 : 0 ≤ b15) => ⟨(y_m_ok hm0), ?_⟩) (fun (i15 l15 : Int) (A15 : p_D) (t15 u15 b15 : Int) (e15 : p_s c v true 2100 3 0 (i + 1) l p_z = .ok (i15, l15, A15)) (w15 : c i15 ≠ 24) (eb15 : b15 = pl i15) (nb15 : 0 ≤ b15) => ⟨(y_m_ok hm0), ?_⟩) (fun (i15 l15 : Int) (A15 : p_D) (r15 t15 u15 b15 : Int) (e15 : p_s c v true 2100 3 0 (i + 1) l p_z = .ok (i15, l15, A15)) (w15 : c i15 = 24) (f15 : p_s c v true 2100 3 0 (i15 + 1) l15 p_z = .error r15) (eb15 : b15 = pl r15) (nb15 : 0 ≤ b15) => ⟨(y_m_ok hm0), ?_⟩)
      · have N15 := p_Nok ((p_sN (c := c) (v := v) (o := true) hY.2.1 2100 (dp := 0) (i := i + 1) (l := l) (acc := p_z) (by omega) (by omega) (by omega) (by omega)).2.2.2.1 (by omega)) e15
        have L15 : i15 < n := ltn _ (by omega) (by omega) (by omega)
        have R15 := p_Nok ((p_sN (c := c) (v := v) (o := true) hY.2.1 2100 (dp := 0) (i := i15 + 1) (l := l15) (acc := p_z) (by omega) (by omega) (by omega) (by omega)).2.2.2.1 (by omega)) f15
        have K15 : c j15 ≠ 0 → j15 < n := ltn _ (by omega) (by omega)
        show cw_C _ _ [vr m_, vi 13] (y_m m j15 q15 (-1)) _
        refine M_takes01 hm0 hY (by omega) (by omega) (fun (a16 : c j15 = 13) => ⟨(y_m_ok hm0), ?_⟩) (fun (a16 : c j15 ≠ 13) => ⟨(y_m_ok hm0), ?_⟩)
        · refine br_f (show ¬ ((1 : Int) = 0) by decide) ?_
          show cw_C _ _ [vr m_, vi 1, vi 20] (y_m m (j15 + 1) q15 (-1)) _
          refine M_mustNumber1 hm0 hY (by omega) (by omega) (fun (a17 : c (j15 + 1) = 50) (a18 : 1 ≤ v (j15 + 1)) (a19 : v (j15 + 1) ≤ 20) => ⟨(y_m_ok hm0), ?_⟩) (fun (a17 : ¬ (c (j15 + 1) = 50 ∧ 1 ≤ v (j15 + 1) ∧ v (j15 + 1) ≤ 20)) (b20 : Int) (eb20 : b20 = pl (j15 + 1)) (nb20 : 0 ≤ b20) => ⟨(y_m_ok hm0), ?_⟩)
          · have Gm21 : j15 + 1 < n := ltn _ (by omega) (by omega) (by omega)
            rw [show (j15 + 1) + 1 = j15 + 2 by omega]
            have Lm22 : c (j15 + 2) ≠ 0 → j15 + 2 < n := ltn _ (by omega) (by omega)
            show cw_C _ _ [vr m_, vi 4] (y_m m (j15 + 2) q15 (-1)) _
            refine M_takes01 hm0 hY (by omega) (by omega) (fun (a23 : c (j15 + 2) = 4) => ⟨(y_m_ok hm0), ?_⟩) (fun (a23 : c (j15 + 2) ≠ 4) => ⟨(y_m_ok hm0), ?_⟩)
            · refine br_f (show ¬ ((1 : Int) = 0) by decide) ?_
              show cw_C _ _ [vr m_, vi 0] (y_m m ((j15 + 2) + 1) q15 (-1)) _
              refine (M_readT hm0 hY 2100).2.2.2.1 _ 0 ((j15 + 2) + 1) q15 p_z false _ (by omega) (by omega) (by omega) (by omega) (by omega) (by omega) (by omega) (by omega) (fun (i24 l24 : Int) (D24 : p_D) (e24 : p_t c v true 2100 3 0 ((j15 + 2) + 1) q15 p_z false = .ok (i24, l24, D24)) => ⟨(y_m_ok hm0), ?_⟩) (fun (r24 t24 u24 b24 : Int) (e24 : p_t c v true 2100 3 0 ((j15 + 2) + 1) q15 p_z false = .error r24) (eb24 : b24 = pl r24) (nb24 : 0 ≤ b24) => ⟨(y_m_ok hm0), ?_⟩)
              · have N24 := p_Nok ((p_tN (c := c) (v := v) (o := true) hY.2.1 2100 (dp := 0) (i := (j15 + 2) + 1) (l := q15) (acc := p_z) (ng := false) (by omega) (by omega) (by omega) (by omega)).2.2.2.1 (by omega)) e24
                show Q none (y_m m i24 l24 (-1))
                first
                  | exact hok _ _ _ (by rw [p_oneO, if_neg (by omega), if_pos (by omega)]; unfold p_two; rw [e15]; show (if _ then _ else _) = _; rw [if_pos w15, f15]; show p_tim _ _ _ _ _ _ _ _ = _; unfold p_tim; rw [if_neg (by omega)]; unfold p_ift; rw [if_pos (by omega), e24])
                  | exact hok _ _ _ (by rw [p_oneO, if_neg (by omega), if_pos (by omega)]; unfold p_two; rw [e15]; show (if _ then _ else _) = _; rw [if_pos w15, f15]; show p_tim _ _ _ _ _ _ _ _ = _; unfold p_tim; rw [if_pos (by omega), if_pos (by omega)]; unfold p_ift; rw [if_pos (by omega), e24])
              · show Q none (y_m m t24 u24 b24)
                first
                  | exact her _ _ _ _ (by rw [p_oneO, if_neg (by omega), if_pos (by omega)]; unfold p_two; rw [e15]; show (if _ then _ else _) = _; rw [if_pos w15, f15]; show p_tim _ _ _ _ _ _ _ _ = _; unfold p_tim; rw [if_neg (by omega)]; unfold p_ift; rw [if_pos (by omega), e24]) eb24 nb24
                  | exact her _ _ _ _ (by rw [p_oneO, if_neg (by omega), if_pos (by omega)]; unfold p_two; rw [e15]; show (if _ then _ else _) = _; rw [if_pos w15, f15]; show p_tim _ _ _ _ _ _ _ _ = _; unfold p_tim; rw [if_pos (by omega), if_pos (by omega)]; unfold p_ift; rw [if_pos (by omega), e24]) eb24 nb24
            · refine br_t (show (0 : Int) = 0 by decide) ?_
              show Q none (y_m m (j15 + 2) q15 (-1))
              first
                | exact hok _ _ _ (by rw [p_oneO, if_neg (by omega), if_pos (by omega)]; unfold p_two; rw [e15]; show (if _ then _ else _) = _; rw [if_pos w15, f15]; show p_tim _ _ _ _ _ _ _ _ = _; unfold p_tim; rw [if_neg (by omega)]; unfold p_ift; rw [if_neg (by omega)])
                | exact hok _ _ _ (by rw [p_oneO, if_neg (by omega), if_pos (by omega)]; unfold p_two; rw [e15]; show (if _ then _ else _) = _; rw [if_pos w15, f15]; show p_tim _ _ _ _ _ _ _ _ = _; unfold p_tim; rw [if_pos (by omega), if_pos (by omega)]; unfold p_ift; rw [if_neg (by omega)])
          · show cw_C _ _ [vr m_, vi 4] (y_m m (j15 + 1) q15 b20) _
            refine M_takes00 hm0 (by omega) ⟨(y_m_ok hm0), ?_⟩
            refine br_t (show (0 : Int) = 0 by decide) ?_
            show Q none (y_m m (j15 + 1) q15 b20)
            first
              | exact her _ _ _ _ (by rw [p_oneO, if_neg (by omega), if_neg (by omega), if_neg (by omega), if_neg (by omega)]) eb20 nb20
              | exact her _ _ _ _ (by rw [p_oneO, if_neg (by omega), if_pos (by omega)]; unfold p_two; rw [e15]; show (if _ then _ else _) = _; rw [if_pos w15, f15]; show p_tim _ _ _ _ _ _ _ _ = _; unfold p_tim; rw [if_pos (by omega), if_neg (by omega)]) eb20 nb20
        · refine br_t (show (0 : Int) = 0 by decide) ?_
          show cw_C _ _ [vr m_, vi 4] (y_m m j15 q15 (-1)) _
          refine M_takes01 hm0 hY (by omega) (by omega) (fun (a25 : c j15 = 4) => ⟨(y_m_ok hm0), ?_⟩) (fun (a25 : c j15 ≠ 4) => ⟨(y_m_ok hm0), ?_⟩)
          · refine br_f (show ¬ ((1 : Int) = 0) by decide) ?_
            show cw_C _ _ [vr m_, vi 0] (y_m m (j15 + 1) q15 (-1)) _
            refine (M_readT hm0 hY 2100).2.2.2.1 _ 0 (j15 + 1) q15 p_z false _ (by omega) (by omega) (by omega) (by omega) (by omega) (by omega) (by omega) (by omega) (fun (i26 l26 : Int) (D26 : p_D) (e26 : p_t c v true 2100 3 0 (j15 + 1) q15 p_z false = .ok (i26, l26, D26)) => ⟨(y_m_ok hm0), ?_⟩) (fun (r26 t26 u26 b26 : Int) (e26 : p_t c v true 2100 3 0 (j15 + 1) q15 p_z false = .error r26) (eb26 : b26 = pl r26) (nb26 : 0 ≤ b26) => ⟨(y_m_ok hm0), ?_⟩)
            · have N26 := p_Nok ((p_tN (c := c) (v := v) (o := true) hY.2.1 2100 (dp := 0) (i := j15 + 1) (l := q15) (acc := p_z) (ng := false) (by omega) (by omega) (by omega) (by omega)).2.2.2.1 (by omega)) e26
              show Q none (y_m m i26 l26 (-1))
              first
                | exact hok _ _ _ (by rw [p_oneO, if_neg (by omega), if_pos (by omega)]; unfold p_two; rw [e15]; show (if _ then _ else _) = _; rw [if_pos w15, f15]; show p_tim _ _ _ _ _ _ _ _ = _; unfold p_tim; rw [if_neg (by omega)]; unfold p_ift; rw [if_pos (by omega), e26])
                | exact hok _ _ _ (by rw [p_oneO, if_neg (by omega), if_pos (by omega)]; unfold p_two; rw [e15]; show (if _ then _ else _) = _; rw [if_pos w15, f15]; show p_tim _ _ _ _ _ _ _ _ = _; unfold p_tim; rw [if_pos (by omega), if_pos (by omega)]; unfold p_ift; rw [if_pos (by omega), e26])
            · show Q none (y_m m t26 u26 b26)
              first
                | exact her _ _ _ _ (by rw [p_oneO, if_neg (by omega), if_pos (by omega)]; unfold p_two; rw [e15]; show (if _ then _ else _) = _; rw [if_pos w15, f15]; show p_tim _ _ _ _ _ _ _ _ = _; unfold p_tim; rw [if_neg (by omega)]; unfold p_ift; rw [if_pos (by omega), e26]) eb26 nb26
                | exact her _ _ _ _ (by rw [p_oneO, if_neg (by omega), if_pos (by omega)]; unfold p_two; rw [e15]; show (if _ then _ else _) = _; rw [if_pos w15, f15]; show p_tim _ _ _ _ _ _ _ _ = _; unfold p_tim; rw [if_pos (by omega), if_pos (by omega)]; unfold p_ift; rw [if_pos (by omega), e26]) eb26 nb26
          · refine br_t (show (0 : Int) = 0 by decide) ?_
            show Q none (y_m m j15 q15 (-1))
            first
              | exact hok _ _ _ (by rw [p_oneO, if_neg (by omega), if_pos (by omega)]; unfold p_two; rw [e15]; show (if _ then _ else _) = _; rw [if_pos w15, f15]; show p_tim _ _ _ _ _ _ _ _ = _; unfold p_tim; rw [if_neg (by omega)]; unfold p_ift; rw [if_neg (by omega)])
              | exact hok _ _ _ (by rw [p_oneO, if_neg (by omega), if_pos (by omega)]; unfold p_two; rw [e15]; show (if _ then _ else _) = _; rw [if_pos w15, f15]; show p_tim _ _ _ _ _ _ _ _ = _; unfold p_tim; rw [if_pos (by omega), if_pos (by omega)]; unfold p_ift; rw [if_neg (by omega)])
      · show cw_C _ _ [vr m_, vi 13] (y_m m t15 u15 b15) _
        refine M_takes00 hm0 (by omega) ⟨(y_m_ok hm0), ?_⟩
        refine br_t (show (0 : Int) = 0 by decide) ?_
        show cw_C _ _ [vr m_, vi 4] (y_m m t15 u15 b15) _
        refine M_takes00 hm0 (by omega) ⟨(y_m_ok hm0), ?_⟩
        refine br_t (show (0 : Int) = 0 by decide) ?_
        show Q none (y_m m t15 u15 b15)
        exact her _ _ _ _ (by rw [p_oneO, if_neg (by omega), if_pos (by omega)]; unfold p_two; rw [e15]) eb15 nb15
      · show cw_C _ _ [vr m_, vi 13] (y_m m t15 u15 b15) _
        refine M_takes00 hm0 (by omega) ⟨(y_m_ok hm0), ?_⟩
        refine br_t (show (0 : Int) = 0 by decide) ?_
        show cw_C _ _ [vr m_, vi 4] (y_m m t15 u15 b15) _
        refine M_takes00 hm0 (by omega) ⟨(y_m_ok hm0), ?_⟩
        refine br_t (show (0 : Int) = 0 by decide) ?_
        show Q none (y_m m t15 u15 b15)
        exact her _ _ _ _ (by rw [p_oneO, if_neg (by omega), if_pos (by omega)]; unfold p_two; rw [e15]; show (if _ then _ else _) = _; rw [if_neg w15]) eb15 nb15
      · show cw_C _ _ [vr m_, vi 13] (y_m m t15 u15 b15) _
        refine M_takes00 hm0 (by omega) ⟨(y_m_ok hm0), ?_⟩
        refine br_t (show (0 : Int) = 0 by decide) ?_
        show cw_C _ _ [vr m_, vi 4] (y_m m t15 u15 b15) _
        refine M_takes00 hm0 (by omega) ⟨(y_m_ok hm0), ?_⟩
        refine br_t (show (0 : Int) = 0 by decide) ?_
        show Q none (y_m m t15 u15 b15)
        exact her _ _ _ _ (by rw [p_oneO, if_neg (by omega), if_pos (by omega)]; unfold p_two; rw [e15]; show (if _ then _ else _) = _; rw [if_pos w15, f15]) eb15 nb15
    · refine br_t (show (0 : Int) = 0 by decide) ?_
      show cw_C _ _ [vr m_, vi 25] (y_m m i l (-1)) _
      refine M_takes01 hm0 hY (by omega) (by omega) (fun (a27 : c i = 25) => ⟨(y_m_ok hm0), ?_⟩) (fun (a27 : c i ≠ 25) => ⟨hm, ?_⟩)
      · refine br_f (show ¬ ((1 : Int) = 0) by decide) ?_
        show cw_C _ _ [vr m_, vi 0] (y_m m (i + 1) l (-1)) _
        refine (M_readS hm0 hY 2100).2.2.2.1 _ 0 (i + 1) l p_z _ (by omega) (by omega) (by omega) (by omega) (by omega) (by omega) (by omega) (by omega) (fun (i28 l28 : Int) (D28 : p_D) (e28 : p_s c v true 2100 3 0 (i + 1) l p_z = .ok (i28, l28, D28)) => ⟨(y_m_ok hm0), ?_⟩) (fun (r28 t28 u28 b28 : Int) (e28 : p_s c v true 2100 3 0 (i + 1) l p_z = .error r28) (eb28 : b28 = pl r28) (nb28 : 0 ≤ b28) => ⟨(y_m_ok hm0), ?_⟩)
        · have N28 := p_Nok ((p_sN (c := c) (v := v) (o := true) hY.2.1 2100 (dp := 0) (i := i + 1) (l := l) (acc := p_z) (by omega) (by omega) (by omega) (by omega)).2.2.2.1 (by omega)) e28
          have S28 := N28.2.2.2.2 rfl
          have L28 : c i28 ≠ 0 → i28 < n := ltn _ (by omega) (by omega)
          show cw_C _ _ [vr m_, vi 13] (y_m m i28 l28 (-1)) _
          refine M_takes01 hm0 hY (by omega) (by omega) (fun (a29 : c i28 = 13) => ⟨(y_m_ok hm0), ?_⟩) (fun (a29 : c i28 ≠ 13) => ⟨(y_m_ok hm0), ?_⟩)
          · refine br_f (show ¬ ((1 : Int) = 0) by decide) ?_
            show cw_C _ _ [vr m_, vi 1, vi 20] (y_m m (i28 + 1) l28 (-1)) _
            refine M_mustNumber1 hm0 hY (by omega) (by omega) (fun (a30 : c (i28 + 1) = 50) (a31 : 1 ≤ v (i28 + 1)) (a32 : v (i28 + 1) ≤ 20) => ⟨(y_m_ok hm0), ?_⟩) (fun (a30 : ¬ (c (i28 + 1) = 50 ∧ 1 ≤ v (i28 + 1) ∧ v (i28 + 1) ≤ 20)) (b33 : Int) (eb33 : b33 = pl (i28 + 1)) (nb33 : 0 ≤ b33) => ⟨(y_m_ok hm0), ?_⟩)
            · have Gm34 : i28 + 1 < n := ltn _ (by omega) (by omega) (by omega)
              rw [show (i28 + 1) + 1 = i28 + 2 by omega]
              have Lm35 : c (i28 + 2) ≠ 0 → i28 + 2 < n := ltn _ (by omega) (by omega)
              show cw_C _ _ [vr m_, vi 4] (y_m m (i28 + 2) l28 (-1)) _
              refine M_takes01 hm0 hY (by omega) (by omega) (fun (a36 : c (i28 + 2) = 4) => ⟨(y_m_ok hm0), ?_⟩) (fun (a36 : c (i28 + 2) ≠ 4) => ⟨(y_m_ok hm0), ?_⟩)
              · refine br_f (show ¬ ((1 : Int) = 0) by decide) ?_
                show cw_C _ _ [vr m_, vi 0] (y_m m ((i28 + 2) + 1) l28 (-1)) _
                refine (M_readT hm0 hY 2100).2.2.2.1 _ 0 ((i28 + 2) + 1) l28 p_z false _ (by omega) (by omega) (by omega) (by omega) (by omega) (by omega) (by omega) (by omega) (fun (i37 l37 : Int) (D37 : p_D) (e37 : p_t c v true 2100 3 0 ((i28 + 2) + 1) l28 p_z false = .ok (i37, l37, D37)) => ⟨(y_m_ok hm0), ?_⟩) (fun (r37 t37 u37 b37 : Int) (e37 : p_t c v true 2100 3 0 ((i28 + 2) + 1) l28 p_z false = .error r37) (eb37 : b37 = pl r37) (nb37 : 0 ≤ b37) => ⟨(y_m_ok hm0), ?_⟩)
                · have N37 := p_Nok ((p_tN (c := c) (v := v) (o := true) hY.2.1 2100 (dp := 0) (i := (i28 + 2) + 1) (l := l28) (acc := p_z) (ng := false) (by omega) (by omega) (by omega) (by omega)).2.2.2.1 (by omega)) e37
                  show Q none (y_m m i37 l37 (-1))
                  first
                    | exact hok _ _ _ (by rw [p_oneO, if_neg (by omega), if_neg (by omega), if_pos (by omega), e28]; show p_tim _ _ _ _ _ _ _ _ = _; unfold p_tim; rw [if_neg (by omega)]; unfold p_ift; rw [if_pos (by omega), e37])
                    | exact hok _ _ _ (by rw [p_oneO, if_neg (by omega), if_neg (by omega), if_pos (by omega), e28]; show p_tim _ _ _ _ _ _ _ _ = _; unfold p_tim; rw [if_pos (by omega), if_pos (by omega)]; unfold p_ift; rw [if_pos (by omega), e37])
                · show Q none (y_m m t37 u37 b37)
                  first
                    | exact her _ _ _ _ (by rw [p_oneO, if_neg (by omega), if_neg (by omega), if_pos (by omega), e28]; show p_tim _ _ _ _ _ _ _ _ = _; unfold p_tim; rw [if_neg (by omega)]; unfold p_ift; rw [if_pos (by omega), e37]) eb37 nb37
                    | exact her _ _ _ _ (by rw [p_oneO, if_neg (by omega), if_neg (by omega), if_pos (by omega), e28]; show p_tim _ _ _ _ _ _ _ _ = _; unfold p_tim; rw [if_pos (by omega), if_pos (by omega)]; unfold p_ift; rw [if_pos (by omega), e37]) eb37 nb37
              · refine br_t (show (0 : Int) = 0 by decide) ?_
                show Q none (y_m m (i28 + 2) l28 (-1))
                first
                  | exact hok _ _ _ (by rw [p_oneO, if_neg (by omega), if_neg (by omega), if_pos (by omega), e28]; show p_tim _ _ _ _ _ _ _ _ = _; unfold p_tim; rw [if_neg (by omega)]; unfold p_ift; rw [if_neg (by omega)])
                  | exact hok _ _ _ (by rw [p_oneO, if_neg (by omega), if_neg (by omega), if_pos (by omega), e28]; show p_tim _ _ _ _ _ _ _ _ = _; unfold p_tim; rw [if_pos (by omega), if_pos (by omega)]; unfold p_ift; rw [if_neg (by omega)])
            · show cw_C _ _ [vr m_, vi 4] (y_m m (i28 + 1) l28 b33) _
              refine M_takes00 hm0 (by omega) ⟨(y_m_ok hm0), ?_⟩
              refine br_t (show (0 : Int) = 0 by decide) ?_
              show Q none (y_m m (i28 + 1) l28 b33)
              first
                | exact her _ _ _ _ (by rw [p_oneO, if_neg (by omega), if_neg (by omega), if_neg (by omega), if_neg (by omega)]) eb33 nb33
                | exact her _ _ _ _ (by rw [p_oneO, if_neg (by omega), if_neg (by omega), if_pos (by omega), e28]; show p_tim _ _ _ _ _ _ _ _ = _; unfold p_tim; rw [if_pos (by omega), if_neg (by omega)]) eb33 nb33
          · refine br_t (show (0 : Int) = 0 by decide) ?_
            show cw_C _ _ [vr m_, vi 4] (y_m m i28 l28 (-1)) _
            refine M_takes01 hm0 hY (by omega) (by omega) (fun (a38 : c i28 = 4) => ⟨(y_m_ok hm0), ?_⟩) (fun (a38 : c i28 ≠ 4) => ⟨(y_m_ok hm0), ?_⟩)
            · refine br_f (show ¬ ((1 : Int) = 0) by decide) ?_
              show cw_C _ _ [vr m_, vi 0] (y_m m (i28 + 1) l28 (-1)) _
              refine (M_readT hm0 hY 2100).2.2.2.1 _ 0 (i28 + 1) l28 p_z false _ (by omega) (by omega) (by omega) (by omega) (by omega) (by omega) (by omega) (by omega) (fun (i39 l39 : Int) (D39 : p_D) (e39 : p_t c v true 2100 3 0 (i28 + 1) l28 p_z false = .ok (i39, l39, D39)) => ⟨(y_m_ok hm0), ?_⟩) (fun (r39 t39 u39 b39 : Int) (e39 : p_t c v true 2100 3 0 (i28 + 1) l28 p_z false = .error r39) (eb39 : b39 = pl r39) (nb39 : 0 ≤ b39) => ⟨(y_m_ok hm0), ?_⟩)
              · have N39 := p_Nok ((p_tN (c := c) (v := v) (o := true) hY.2.1 2100 (dp := 0) (i := i28 + 1) (l := l28) (acc := p_z) (ng := false) (by omega) (by omega) (by omega) (by omega)).2.2.2.1 (by omega)) e39
                show Q none (y_m m i39 l39 (-1))
                first
                  | exact hok _ _ _ (by rw [p_oneO, if_neg (by omega), if_neg (by omega), if_pos (by omega), e28]; show p_tim _ _ _ _ _ _ _ _ = _; unfold p_tim; rw [if_neg (by omega)]; unfold p_ift; rw [if_pos (by omega), e39])
                  | exact hok _ _ _ (by rw [p_oneO, if_neg (by omega), if_neg (by omega), if_pos (by omega), e28]; show p_tim _ _ _ _ _ _ _ _ = _; unfold p_tim; rw [if_pos (by omega), if_pos (by omega)]; unfold p_ift; rw [if_pos (by omega), e39])
              · show Q none (y_m m t39 u39 b39)
                first
                  | exact her _ _ _ _ (by rw [p_oneO, if_neg (by omega), if_neg (by omega), if_pos (by omega), e28]; show p_tim _ _ _ _ _ _ _ _ = _; unfold p_tim; rw [if_neg (by omega)]; unfold p_ift; rw [if_pos (by omega), e39]) eb39 nb39
                  | exact her _ _ _ _ (by rw [p_oneO, if_neg (by omega), if_neg (by omega), if_pos (by omega), e28]; show p_tim _ _ _ _ _ _ _ _ = _; unfold p_tim; rw [if_pos (by omega), if_pos (by omega)]; unfold p_ift; rw [if_pos (by omega), e39]) eb39 nb39
            · refine br_t (show (0 : Int) = 0 by decide) ?_
              show Q none (y_m m i28 l28 (-1))
              first
                | exact hok _ _ _ (by rw [p_oneO, if_neg (by omega), if_neg (by omega), if_pos (by omega), e28]; show p_tim _ _ _ _ _ _ _ _ = _; unfold p_tim; rw [if_neg (by omega)]; unfold p_ift; rw [if_neg (by omega)])
                | exact hok _ _ _ (by rw [p_oneO, if_neg (by omega), if_neg (by omega), if_pos (by omega), e28]; show p_tim _ _ _ _ _ _ _ _ = _; unfold p_tim; rw [if_pos (by omega), if_pos (by omega)]; unfold p_ift; rw [if_neg (by omega)])
        · show cw_C _ _ [vr m_, vi 13] (y_m m t28 u28 b28) _
          refine M_takes00 hm0 (by omega) ⟨(y_m_ok hm0), ?_⟩
          refine br_t (show (0 : Int) = 0 by decide) ?_
          show cw_C _ _ [vr m_, vi 4] (y_m m t28 u28 b28) _
          refine M_takes00 hm0 (by omega) ⟨(y_m_ok hm0), ?_⟩
          refine br_t (show (0 : Int) = 0 by decide) ?_
          show Q none (y_m m t28 u28 b28)
          exact her _ _ _ _ (by rw [p_oneO, if_neg (by omega), if_neg (by omega), if_pos (by omega), e28]) eb28 nb28
      · refine br_t (show (0 : Int) = 0 by decide) ?_
        show cw_C _ _ [vr m_, vi 26] (y_m m i l (-1)) _
        refine M_must1 hm0 hY (by omega) (by omega) (fun (a40 : c i = 26) => ⟨(y_m_ok hm0), ?_⟩) (fun (a40 : c i ≠ 26) (b41 : Int) (eb41 : b41 = pl i) (nb41 : 0 ≤ b41) => ⟨(y_m_ok hm0), ?_⟩)
        · show cw_C _ _ [vr m_, vi 13] (y_m m (i + 1) l (-1)) _
          refine M_takes01 hm0 hY (by omega) (by omega) (fun (a42 : c (i + 1) = 13) => ⟨(y_m_ok hm0), ?_⟩) (fun (a42 : c (i + 1) ≠ 13) => ⟨(y_m_ok hm0), ?_⟩)
          · refine br_f (show ¬ ((1 : Int) = 0) by decide) ?_
            show cw_C _ _ [vr m_, vi 1, vi 20] (y_m m ((i + 1) + 1) l (-1)) _
            refine M_mustNumber1 hm0 hY (by omega) (by omega) (fun (a43 : c ((i + 1) + 1) = 50) (a44 : 1 ≤ v ((i + 1) + 1)) (a45 : v ((i + 1) + 1) ≤ 20) => ⟨(y_m_ok hm0), ?_⟩) (fun (a43 : ¬ (c ((i + 1) + 1) = 50 ∧ 1 ≤ v ((i + 1) + 1) ∧ v ((i + 1) + 1) ≤ 20)) (b46 : Int) (eb46 : b46 = pl ((i + 1) + 1)) (nb46 : 0 ≤ b46) => ⟨(y_m_ok hm0), ?_⟩)
            · have Gm47 : (i + 1) + 1 < n := ltn _ (by omega) (by omega) (by omega)
              rw [show ((i + 1) + 1) + 1 = (i + 1) + 2 by omega]
              have Lm48 : c ((i + 1) + 2) ≠ 0 → (i + 1) + 2 < n := ltn _ (by omega) (by omega)
              show cw_C _ _ [vr m_, vi 4] (y_m m ((i + 1) + 2) l (-1)) _
              refine M_takes01 hm0 hY (by omega) (by omega) (fun (a49 : c ((i + 1) + 2) = 4) => ⟨(y_m_ok hm0), ?_⟩) (fun (a49 : c ((i + 1) + 2) ≠ 4) => ⟨(y_m_ok hm0), ?_⟩)
              · refine br_f (show ¬ ((1 : Int) = 0) by decide) ?_
                show cw_C _ _ [vr m_, vi 0] (y_m m (((i + 1) + 2) + 1) l (-1)) _
                refine (M_readT hm0 hY 2100).2.2.2.1 _ 0 (((i + 1) + 2) + 1) l p_z false _ (by omega) (by omega) (by omega) (by omega) (by omega) (by omega) (by omega) (by omega) (fun (i50 l50 : Int) (D50 : p_D) (e50 : p_t c v true 2100 3 0 (((i + 1) + 2) + 1) l p_z false = .ok (i50, l50, D50)) => ⟨(y_m_ok hm0), ?_⟩) (fun (r50 t50 u50 b50 : Int) (e50 : p_t c v true 2100 3 0 (((i + 1) + 2) + 1) l p_z false = .error r50) (eb50 : b50 = pl r50) (nb50 : 0 ≤ b50) => ⟨(y_m_ok hm0), ?_⟩)
                · have N50 := p_Nok ((p_tN (c := c) (v := v) (o := true) hY.2.1 2100 (dp := 0) (i := ((i + 1) + 2) + 1) (l := l) (acc := p_z) (ng := false) (by omega) (by omega) (by omega) (by omega)).2.2.2.1 (by omega)) e50
                  show Q none (y_m m i50 l50 (-1))
                  first
                    | exact hok _ _ _ (by rw [p_oneO, if_neg (by omega), if_neg (by omega), if_neg (by omega), if_pos (by omega)]; unfold p_tim; rw [if_neg (by omega)]; unfold p_ift; rw [if_pos (by omega), e50])
                    | exact hok _ _ _ (by rw [p_oneO, if_neg (by omega), if_neg (by omega), if_neg (by omega), if_pos (by omega)]; unfold p_tim; rw [if_pos (by omega), if_pos (by omega)]; unfold p_ift; rw [if_pos (by omega), e50])
                · show Q none (y_m m t50 u50 b50)
                  first
                    | exact her _ _ _ _ (by rw [p_oneO, if_neg (by omega), if_neg (by omega), if_neg (by omega), if_pos (by omega)]; unfold p_tim; rw [if_neg (by omega)]; unfold p_ift; rw [if_pos (by omega), e50]) eb50 nb50
                    | exact her _ _ _ _ (by rw [p_oneO, if_neg (by omega), if_neg (by omega), if_neg (by omega), if_pos (by omega)]; unfold p_tim; rw [if_pos (by omega), if_pos (by omega)]; unfold p_ift; rw [if_pos (by omega), e50]) eb50 nb50
              · refine br_t (show (0 : Int) = 0 by decide) ?_
                show Q none (y_m m ((i + 1) + 2) l (-1))
                first
                  | exact hok _ _ _ (by rw [p_oneO, if_neg (by omega), if_neg (by omega), if_neg (by omega), if_pos (by omega)]; unfold p_tim; rw [if_neg (by omega)]; unfold p_ift; rw [if_neg (by omega)])
                  | exact hok _ _ _ (by rw [p_oneO, if_neg (by omega), if_neg (by omega), if_neg (by omega), if_pos (by omega)]; unfold p_tim; rw [if_pos (by omega), if_pos (by omega)]; unfold p_ift; rw [if_neg (by omega)])
            · show cw_C _ _ [vr m_, vi 4] (y_m m ((i + 1) + 1) l b46) _
              refine M_takes00 hm0 (by omega) ⟨(y_m_ok hm0), ?_⟩
              refine br_t (show (0 : Int) = 0 by decide) ?_
              show Q none (y_m m ((i + 1) + 1) l b46)
              first
                | exact her _ _ _ _ (by rw [p_oneO, if_neg (by omega), if_neg (by omega), if_neg (by omega), if_neg (by omega)]) eb46 nb46
                | exact her _ _ _ _ (by rw [p_oneO, if_neg (by omega), if_neg (by omega), if_neg (by omega), if_pos (by omega)]; unfold p_tim; rw [if_pos (by omega), if_neg (by omega)]) eb46 nb46
          · refine br_t (show (0 : Int) = 0 by decide) ?_
            show cw_C _ _ [vr m_, vi 4] (y_m m (i + 1) l (-1)) _
            refine M_takes01 hm0 hY (by omega) (by omega) (fun (a51 : c (i + 1) = 4) => ⟨(y_m_ok hm0), ?_⟩) (fun (a51 : c (i + 1) ≠ 4) => ⟨(y_m_ok hm0), ?_⟩)
            · refine br_f (show ¬ ((1 : Int) = 0) by decide) ?_
              show cw_C _ _ [vr m_, vi 0] (y_m m ((i + 1) + 1) l (-1)) _
              refine (M_readT hm0 hY 2100).2.2.2.1 _ 0 ((i + 1) + 1) l p_z false _ (by omega) (by omega) (by omega) (by omega) (by omega) (by omega) (by omega) (by omega) (fun (i52 l52 : Int) (D52 : p_D) (e52 : p_t c v true 2100 3 0 ((i + 1) + 1) l p_z false = .ok (i52, l52, D52)) => ⟨(y_m_ok hm0), ?_⟩) (fun (r52 t52 u52 b52 : Int) (e52 : p_t c v true 2100 3 0 ((i + 1) + 1) l p_z false = .error r52) (eb52 : b52 = pl r52) (nb52 : 0 ≤ b52) => ⟨(y_m_ok hm0), ?_⟩)
              · have N52 := p_Nok ((p_tN (c := c) (v := v) (o := true) hY.2.1 2100 (dp := 0) (i := (i + 1) + 1) (l := l) (acc := p_z) (ng := false) (by omega) (by omega) (by omega) (by omega)).2.2.2.1 (by omega)) e52
                show Q none (y_m m i52 l52 (-1))
                first
                  | exact hok _ _ _ (by rw [p_oneO, if_neg (by omega), if_neg (by omega), if_neg (by omega), if_pos (by omega)]; unfold p_tim; rw [if_neg (by omega)]; unfold p_ift; rw [if_pos (by omega), e52])
                  | exact hok _ _ _ (by rw [p_oneO, if_neg (by omega), if_neg (by omega), if_neg (by omega), if_pos (by omega)]; unfold p_tim; rw [if_pos (by omega), if_pos (by omega)]; unfold p_ift; rw [if_pos (by omega), e52])
              · show Q none (y_m m t52 u52 b52)
                first
                  | exact her _ _ _ _ (by rw [p_oneO, if_neg (by omega), if_neg (by omega), if_neg (by omega), if_pos (by omega)]; unfold p_tim; rw [if_neg (by omega)]; unfold p_ift; rw [if_pos (by omega), e52]) eb52 nb52
                  | exact her _ _ _ _ (by rw [p_oneO, if_neg (by omega), if_neg (by omega), if_neg (by omega), if_pos (by omega)]; unfold p_tim; rw [if_pos (by omega), if_pos (by omega)]; unfold p_ift; rw [if_pos (by omega), e52]) eb52 nb52
            · refine br_t (show (0 : Int) = 0 by decide) ?_
              show Q none (y_m m (i + 1) l (-1))
              first
                | exact hok _ _ _ (by rw [p_oneO, if_neg (by omega), if_neg (by omega), if_neg (by omega), if_pos (by omega)]; unfold p_tim; rw [if_neg (by omega)]; unfold p_ift; rw [if_neg (by omega)])
                | exact hok _ _ _ (by rw [p_oneO, if_neg (by omega), if_neg (by omega), if_neg (by omega), if_pos (by omega)]; unfold p_tim; rw [if_pos (by omega), if_pos (by omega)]; unfold p_ift; rw [if_neg (by omega)])
        · show cw_C _ _ [vr m_, vi 13] (y_m m i l b41) _
          refine M_takes00 hm0 (by omega) ⟨(y_m_ok hm0), ?_⟩
          refine br_t (show (0 : Int) = 0 by decide) ?_
          show cw_C _ _ [vr m_, vi 4] (y_m m i l b41) _
          refine M_takes00 hm0 (by omega) ⟨(y_m_ok hm0), ?_⟩
          refine br_t (show (0 : Int) = 0 by decide) ?_
          show Q none (y_m m i l b41)
          first
            | exact her _ _ _ _ (by rw [p_oneO, if_neg (by omega), if_neg (by omega), if_neg (by omega), if_neg (by omega)]) eb41 nb41
            | exact her _ _ _ _ (by rw [p_oneO, if_neg (by omega), if_neg (by omega), if_neg (by omega), if_pos (by omega)]; unfold p_tim; rw [if_pos (by omega), if_neg (by omega)]) eb41 nb41
