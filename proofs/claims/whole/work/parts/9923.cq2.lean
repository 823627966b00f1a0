/-! More questions, by the class (wip/whole/tools/m123.py). -/
theorem R_mn1 {g : Int → Int} (h : g 0 ≤ 1000000) : r_mn g 1 = g 0 := by
  show min 1000000 (g ((0 : Nat) : Int)) = g 0
  rw [show ((0 : Nat) : Int) = 0 from rfl]
  omega
theorem R_mx1 {g : Int → Int} (h : 0 ≤ g 0) : r_mx g 1 = (g 0, 0) := by
  show (if (-1 : Int) < g ((0 : Nat) : Int) then (g ((0 : Nat) : Int), ((0 : Nat) : Int)) else (-1, -1)) = _
  rw [show ((0 : Nat) : Int) = 0 from rfl, if_pos (by omega)]
theorem C_gets {d : Nat} {m : cw_M} {Q : Option cw_V → cw_M → Prop} {K : Int → Int} (hm : la_ok m) (hT : ∀ j, 0 ≤ j → j < 7 → m cw_TREES j = t_c j) (hK : K_r K) (hW : W_r m K) (hZ : Z_c m K) {rd p : Int} (h : ∀ M, la_ok M → V_s m M → Z_c M K → Q (some (vi (q_gets K rd p))) M) : cw_C (d + 13) k_C_gets [vr x_, vi rd, vi p] m Q := by
  have rk := R_Kr hK
  refine la_go_C hm 25 [] ?_
  show cw_C _ _ [vr x_] (m) _
  refine C_freshen hm hT hK hW hZ (fun (X : cw_M) (hX : la_ok X) (hV : V_s m X) (hZc : Z_c X K) (h18 : X x_ 18 = 0) (h19 : X x_ 19 = 0) => ⟨hX, ?_⟩)
  have hWX := W_rV hW hV
  have hZX : Z_f X K := ⟨hZc, h18, h19⟩
  show cw_C _ _ [vi rd, vi ((R_K K).length : Int)] (X) _
  refine C_isBelow (fun (a21 : 0 ≤ rd) (a22 : rd < ((R_K K).length : Int)) => ⟨hX, ?_⟩) (fun (a23 : ¬ (0 ≤ rd ∧ rd < ((R_K K).length : Int))) => ⟨hX, ?_⟩)
  · refine br_f (show ¬ ((1 : Int) = 0) by decide) ?_
    show cw_C _ _ [vi p, vi 6] (X) _
    refine C_isBelow (fun (a24 : 0 ≤ p) (a25 : p < 6) => ⟨hX, ?_⟩) (fun (a26 : ¬ (0 ≤ p ∧ p < 6)) => ⟨hX, ?_⟩)
    · refine br_t (show (1 : Int) ≠ 0 by decide) ?_
      have hl := Z_fl hZX rd (by omega) (by omega)
      have tt := rk.2 rd (by omega) (by omega)
      refine And.intro (show 0 ≤ rd ∧ rd < 132 by omega) ?_
      show cw_C _ _ [vr x_ledger_, vi (X x_forest_list_ rd)] (X) _
      refine Le_know hX hK hWX hZX (by rw [hl]; exact tt.1) (fun (Y : cw_M) (hY : la_ok Y) (hVY : V_s X Y) (hZY : Z_f Y K) (hNY : N_s X Y) hkY => ⟨hY, ?_⟩)
      rw [hl] at hkY
      have hWY := W_rV hWX hVY
      show cw_C _ _ [vr x_, vi rd, vi p] (Y) _
      refine C_amount hY hK hZY (by omega) (by omega) hkY ⟨hY, ?_⟩
      show Q (some (vi (G_R K rd p))) (Y)
      have e : q_gets K rd p = G_R K rd p := by unfold q_gets; rw [if_pos (by omega)]
      rw [← e]
      exact h Y hY (V_st hV hVY) hZY.1
    · refine br_f (show ¬ ((0 : Int) ≠ 0) by decide) ?_
      show Q (some (vi (-1))) (X)
      have e : q_gets K rd p = -1 := by unfold q_gets; rw [if_neg (by omega)]
      rw [← e]
      exact h X hX hV hZc
  · refine br_t (show (0 : Int) = 0 by decide) ?_
    show Q (some (vi (-1))) (X)
    have e : q_gets K rd p = -1 := by unfold q_gets; rw [if_neg (by omega)]
    rw [← e]
    exact h X hX hV hZc
noncomputable def c_L (K : Int → Int) (rd : Int) : Nat → Int
  | 0 => K 43
  | n + 1 => c_L K rd n - G_R K rd n
theorem c_Lr {K : Int → Int} {rd : Int} (hK : K_r K) : ∀ n : Nat, n ≤ 6 → -100000 + 9999 * (6 - n) - 59994 - 9999 ≤ c_L K rd n + 59994 ∧ c_L K rd n ≤ 9999
  | 0, _ => by show _ ≤ K 43 + _ ∧ K 43 ≤ _; have := hK.2.2.2.2.2.2.1; omega
  | n + 1, h => by
    have a := c_Lr (rd := rd) hK n (by omega)
    have b := G_Rr (i := rd) (p := n) hK
    show _ ≤ c_L K rd n - G_R K rd n + _ ∧ c_L K rd n - G_R K rd n ≤ _
    omega
theorem C_lost41 {d : Nat} {m Y : cw_M} {Q : Option cw_V → cw_M → Prop} {K : Int → Int} {rd : Int} (hK : K_r K) (hrd : 0 ≤ rd ∧ rd < ((R_K K).length : Int)) (hY : la_ok Y) (hVm : V_s m Y) (hZY : Z_f Y K) (hkY : Y x_ledger_isKnown_ (t_g (R_K K) rd) ≠ 0) (h : ∀ M, la_ok M → V_s m M → Z_c M K → Q (some (vi (q_lost K rd))) M) : cw_R (d + 13) k_C_lost 41 [vr x_, vi rd, vi (K 43), vi 0] [] Y Q := by
  have lp : ∀ (r : Nat) (k : Int), 6 < k + r → (0 ≤ k ∧ k ≤ 6) → cw_R (d + 13) k_C_lost 41 [vr x_, vi rd, vi (c_L K rd k.toNat), vi k] [] Y Q := by
    intro r
    induction r with
    | zero =>
      intro k hr hk
      omega
    | succ r ih =>
      intro k hr hk
      have cl := c_Lr (rd := rd) hK k.toNat (by omega)
      have gr := G_Rr (i := rd) (p := k) hK
      refine la_go_R hY 15 [41] ?_
      refine And.intro (fun (c21 : 6 ≤ k) => ?_) (fun (c21 : ¬ (6 ≤ k)) => ?_)
      · show Q (some (vi (c_L K rd k.toNat))) (Y)
        rw [show k.toNat = 6 by omega]
        have e : q_lost K rd = c_L K rd 6 := by unfold q_lost; rw [if_pos hrd]; rfl
        rw [← e]
        exact h Y hY hVm hZY.1
      · show cw_C _ _ [vr x_, vi rd, vi k] (Y) _
        refine C_amount hY hK hZY (by omega) (by omega) hkY ⟨hY, ?_⟩
        refine And.intro (show -2147483648 ≤ (c_L K rd k.toNat) - (G_R K rd k) ∧ (c_L K rd k.toNat) - (G_R K rd k) < 2147483648 by omega) ?_
        refine And.intro (show -2147483648 ≤ k + 1 ∧ k + 1 < 2147483648 by omega) ?_
        show cw_R _ _ 41 [vr x_, vi rd, vi ((c_L K rd k.toNat) - (G_R K rd k)), vi (k + 1)] [] (Y) _
        rw [show c_L K rd k.toNat - G_R K rd k = c_L K rd (k + 1).toNat by rw [show (k + 1).toNat = k.toNat + 1 by omega]; show _ = c_L K rd k.toNat - G_R K rd (k.toNat : Int); rw [show (k.toNat : Int) = k by omega]]
        exact ih (k + 1) (by omega) (by omega)
  exact lp 7 0 (by omega) (by omega)
theorem C_lost {d : Nat} {m : cw_M} {Q : Option cw_V → cw_M → Prop} {K : Int → Int} (hm : la_ok m) (hT : ∀ j, 0 ≤ j → j < 7 → m cw_TREES j = t_c j) (hK : K_r K) (hW : W_r m K) (hZ : Z_c m K) {rd : Int} (h : ∀ M, la_ok M → V_s m M → Z_c M K → Q (some (vi (q_lost K rd))) M) : cw_C (d + 13) k_C_lost [vr x_, vi rd] m Q := by
  have rk := R_Kr hK
  refine la_go_C hm 24 [41] ?_
  show cw_C _ _ [vr x_] (m) _
  refine C_freshen hm hT hK hW hZ (fun (X : cw_M) (hX : la_ok X) (hV : V_s m X) (hZc : Z_c X K) (h18 : X x_ 18 = 0) (h19 : X x_ 19 = 0) => ⟨hX, ?_⟩)
  have hWX := W_rV hW hV
  have hZX : Z_f X K := ⟨hZc, h18, h19⟩
  show cw_C _ _ [vi rd, vi ((R_K K).length : Int)] (X) _
  refine C_isBelow (fun (a21 : 0 ≤ rd) (a22 : rd < ((R_K K).length : Int)) => ⟨hX, ?_⟩) (fun (a23 : ¬ (0 ≤ rd ∧ rd < ((R_K K).length : Int))) => ⟨hX, ?_⟩)
  · refine br_t (show (1 : Int) ≠ 0 by decide) ?_
    have hl := Z_fl hZX rd (by omega) (by omega)
    have tt := rk.2 rd (by omega) (by omega)
    refine And.intro (show 0 ≤ rd ∧ rd < 132 by omega) ?_
    show cw_C _ _ [vr x_ledger_, vi (X x_forest_list_ rd)] (X) _
    refine Le_know hX hK hWX hZX (by rw [hl]; exact tt.1) (fun (Y : cw_M) (hY : la_ok Y) (hVY : V_s X Y) (hZY : Z_f Y K) (hNY : N_s X Y) hkY => ⟨hY, ?_⟩)
    rw [hl] at hkY
    have hWY := W_rV hWX hVY
    refine And.intro (show 0 ≤ 1 ∧ 1 < 4 by omega) ?_
    show cw_R _ _ 41 [vr x_, vi rd, vi (Y x_will_terms_ 1), vi 0] [] (Y) _
    rw [hWY.2.2.2.2.2.1.2.1]
    exact C_lost41 hK (by omega) hY (V_st hV hVY) hZY hkY h
  · refine br_f (show ¬ ((0 : Int) ≠ 0) by decide) ?_
    show Q (some (vi (-1))) (X)
    have e : q_lost K rd = -1 := by unfold q_lost; rw [if_neg (by omega)]
    rw [← e]
    exact h X hX hV hZc
theorem C_range48 {d : Nat} {m X : cw_M} {Q : Option cw_V → cw_M → Prop} {K : Int → Int} {p w : Int} {w8 : cw_V} (hK : K_r K) (hp : 0 ≤ p ∧ p < 6) (hw : 0 ≤ w ∧ w < 3) (hl : 1 ≤ ((R_K K).length : Int)) (hV : V_s m X) (hq : Q_c K X) (h : ∀ M, la_ok M → V_s m M → Z_c M K → Q (some (vi (q_rng K p w))) M) : cw_R (d + 14) k_C_range 48 [vr x_, vi p, vi w, vi ((R_K K).length : Int), vi (G_R K 0 p), vi (G_R K 0 p), vi 0, vi 1, w8] [] X Q := by
  have lp : ∀ (r : Nat) (k : Int) (w8 : cw_V), ((R_K K).length : Int) < k + r → (1 ≤ k ∧ k ≤ ((R_K K).length : Int)) → cw_R (d + 14) k_C_range 48 [vr x_, vi p, vi w, vi ((R_K K).length : Int), vi (r_mn (fun i => G_R K i p) k.toNat), vi ((r_mx (fun i => G_R K i p) k.toNat).1), vi ((r_mx (fun i => G_R K i p) k.toNat).2), vi k, w8] [] X Q := by
    intro r
    induction r with
    | zero =>
      intro k w8 hr hk
      omega
    | succ r ih =>
      intro k w8 hr hk
      have rk := (R_Kr hK).1
      have gr := G_Rr (i := k) (p := p) hK
      refine la_go_R hq.1.1 24 [48] ?_
      refine And.intro (fun (c21 : ((R_K K).length : Int) ≤ k) => ?_) (fun (c21 : ¬ (((R_K K).length : Int) ≤ k)) => ?_)
      · refine And.intro (fun (c22 : w ≠ 0) => ?_) (fun (c22 : ¬ (w ≠ 0)) => ?_)
        · refine And.intro (fun (c23 : w ≠ 1) => ?_) (fun (c23 : ¬ (w ≠ 1)) => ?_)
          · show Q (some (vi ((r_mx (fun i => G_R K i p) k.toNat).2))) (X)
            rw [show k.toNat = (R_K K).length by omega]
            have e : q_rng K p w = (r_mx (fun i => G_R K i p) (R_K K).length).2 := by unfold q_rng; rw [if_pos (by omega), if_neg (by omega), if_neg (by omega)]
            rw [← e]
            exact h X hq.1.1 hV hq.2.1.2.1
          · show Q (some (vi ((r_mx (fun i => G_R K i p) k.toNat).1))) (X)
            rw [show k.toNat = (R_K K).length by omega]
            have e : q_rng K p w = (r_mx (fun i => G_R K i p) (R_K K).length).1 := by unfold q_rng; rw [if_pos (by omega), if_neg (by omega), if_pos (by omega)]
            rw [← e]
            exact h X hq.1.1 hV hq.2.1.2.1
        · show Q (some (vi (r_mn (fun i => G_R K i p) k.toNat))) (X)
          rw [show k.toNat = (R_K K).length by omega]
          have e : q_rng K p w = r_mn (fun i => G_R K i p) (R_K K).length := by unfold q_rng; rw [if_pos (by omega), if_pos (by omega)]
          rw [← e]
          exact h X hq.1.1 hV hq.2.1.2.1
      · show cw_C _ _ [vr x_, vi k, vi p] (X) _
        refine C_amount hq.1.1 hK hq.2.1.2 (by omega) (by omega) (hq.2.2 k (by omega) (by omega)) ⟨hq.1.1, ?_⟩
        show cw_C _ _ [vi (r_mn (fun i => G_R K i p) k.toNat), vi (G_R K k p)] (X) _
        refine Jm_min ⟨hq.1.1, ?_⟩
        refine And.intro (fun (c24 : G_R K k p ≤ (r_mx (fun i => G_R K i p) k.toNat).1) => ?_) (fun (c24 : ¬ (G_R K k p ≤ (r_mx (fun i => G_R K i p) k.toNat).1)) => ?_)
        · refine And.intro (show -2147483648 ≤ k + 1 ∧ k + 1 < 2147483648 by omega) ?_
          show cw_R _ _ 48 [vr x_, vi p, vi w, vi ((R_K K).length : Int), vi (min (r_mn (fun i => G_R K i p) k.toNat) (G_R K k p)), vi ((r_mx (fun i => G_R K i p) k.toNat).1), vi ((r_mx (fun i => G_R K i p) k.toNat).2), vi (k + 1), vi (G_R K k p)] [] (X) _
          have e1 : min (r_mn (fun i => G_R K i p) k.toNat) (G_R K k p) = r_mn (fun i => G_R K i p) (k + 1).toNat := r_mn1 (g := (fun i => G_R K i p)) (by omega)
          rw [e1]
          have e2 := r_mx0 (g := (fun i => G_R K i p)) (k := k) (by omega) (by omega)
          have ih2 := ih (k + 1) (vi (G_R K k p)) (by omega) (by omega)
          rw [e2] at ih2
          exact ih2
        · refine And.intro (show -2147483648 ≤ k + 1 ∧ k + 1 < 2147483648 by omega) ?_
          show cw_R _ _ 48 [vr x_, vi p, vi w, vi ((R_K K).length : Int), vi (min (r_mn (fun i => G_R K i p) k.toNat) (G_R K k p)), vi (G_R K k p), vi k, vi (k + 1), vi (G_R K k p)] [] (X) _
          have e1 : min (r_mn (fun i => G_R K i p) k.toNat) (G_R K k p) = r_mn (fun i => G_R K i p) (k + 1).toNat := r_mn1 (g := (fun i => G_R K i p)) (by omega)
          rw [e1]
          have e2 := r_mx1 (g := (fun i => G_R K i p)) (k := k) (by omega) (by omega)
          rw [show G_R K k p = (r_mx (fun i => G_R K i p) (k + 1).toNat).1 by rw [e2]]
          have e3 : (r_mx (fun i => G_R K i p) (k + 1).toNat).2 = k := by rw [e2]
          have ih2 := ih (k + 1) (vi (r_mx (fun i => G_R K i p) (k + 1).toNat).1) (by omega) (by omega)
          rw [e3] at ih2
          exact ih2
  have g0 := G_Rr (i := 0) (p := p) hK
  have a := lp ((R_K K).length + 1) 1 w8 (by omega) (by omega)
  rw [show (1 : Int).toNat = 1 from rfl, R_mn1 (g := (fun i => G_R K i p)) (show G_R K 0 p ≤ 1000000 by omega), R_mx1 (g := (fun i => G_R K i p)) (show 0 ≤ G_R K 0 p by omega)] at a
  exact a
theorem C_range {d : Nat} {m : cw_M} {Q : Option cw_V → cw_M → Prop} {K : Int → Int} (hm : la_ok m) (hT : ∀ j, 0 ≤ j → j < 7 → m cw_TREES j = t_c j) (hK : K_r K) (hW : W_r m K) (hZ : Z_c m K) {p w : Int} (h : ∀ M, la_ok M → V_s m M → Z_c M K → Q (some (vi (q_rng K p w))) M) : cw_C (d + 14) k_C_range [vr x_, vi p, vi w] m Q := by
  have rk := R_Kr hK
  refine la_go_C hm 27 [48] ?_
  show cw_C _ _ [vi p, vi 6] (m) _
  refine C_isBelow (fun (a21 : 0 ≤ p) (a22 : p < 6) => ⟨hm, ?_⟩) (fun (a23 : ¬ (0 ≤ p ∧ p < 6)) => ⟨hm, ?_⟩)
  · refine br_f (show ¬ ((1 : Int) = 0) by decide) ?_
    show cw_C _ _ [vi w, vi 3] (m) _
    refine C_isBelow (fun (a24 : 0 ≤ w) (a25 : w < 3) => ⟨hm, ?_⟩) (fun (a26 : ¬ (0 ≤ w ∧ w < 3)) => ⟨hm, ?_⟩)
    · refine br_t (show (1 : Int) ≠ 0 by decide) ?_
      show cw_C _ _ [vr x_] (m) _
      refine C_learnReadings hm hT hK hW hZ (fun (X : cw_M) (hV : V_s m X) (hq : Q_c K X) => ⟨hq.1.1, ?_⟩)
      refine And.intro (fun (c27 : ((R_K K).length : Int) ≠ 0) => ?_) (fun (c27 : ¬ (((R_K K).length : Int) ≠ 0)) => ?_)
      · show cw_C _ _ [vr x_, vi 0, vi p] (X) _
        refine C_amount hq.1.1 hK hq.2.1.2 (by omega) (by omega) (hq.2.2 0 (by omega) (by omega)) ⟨hq.1.1, ?_⟩
        show cw_R _ _ 48 [vr x_, vi p, vi w, vi ((R_K K).length : Int), vi (G_R K 0 p), vi (G_R K 0 p), vi 0, vi 1, none] [] (X) _
        exact C_range48 hK (by omega) (by omega) (by omega) hV hq h
      · show Q (some (vi (-1))) (X)
        have e : q_rng K p w = -1 := by unfold q_rng; rw [if_neg (by omega)]
        rw [← e]
        exact h X hq.1.1 hV hq.2.1.2.1
    · refine br_f (show ¬ ((0 : Int) ≠ 0) by decide) ?_
      show Q (some (vi (-1))) (m)
      have e : q_rng K p w = -1 := by unfold q_rng; rw [if_neg (by omega)]
      rw [← e]
      exact h m hm V_sr hZ
  · refine br_t (show (0 : Int) = 0 by decide) ?_
    show Q (some (vi (-1))) (m)
    have e : q_rng K p w = -1 := by unfold q_rng; rw [if_neg (by omega)]
    rw [← e]
    exact h m hm V_sr hZ
theorem C_alikeQ {d : Nat} {K : Int → Int} {X : cw_M} {Q : Option cw_V → cw_M → Prop} {a b : Int} (hq : Q_c K X) (ha : 0 ≤ a ∧ a < ((R_K K).length : Int)) (hb : 0 ≤ b ∧ b < ((R_K K).length : Int)) (h1 : al_6 (G_R K) a b → Q (some (vi 1)) X) (h0 : ¬ al_6 (G_R K) a b → Q (some (vi 0)) X) : cw_C d k_Le_areAlike [vr x_ledger_, vi (X x_forest_list_ a), vi (X x_forest_list_ b)] X Q := by
  have rk := R_Kr hq.1.2
  have ta := rk.2 a ha.1 ha.2
  have tb := rk.2 b hb.1 hb.2
  have la := Z_fl hq.2.1.2 a ha.1 ha.2
  have lb := Z_fl hq.2.1.2 b hb.1 hb.2
  have key : ∀ p, 0 ≤ p → p < 6 → X x_ledger_got_ (X x_forest_list_ a * 6 + p) = G_R K a p ∧ X x_ledger_got_ (X x_forest_list_ b * 6 + p) = G_R K b p := fun p p0 p1 => by
    rw [la, lb]
    exact ⟨Z_fg hq.2.1.2 ta.1 (hq.2.2 a ha.1 ha.2) ⟨p0, p1⟩, Z_fg hq.2.1.2 tb.1 (hq.2.2 b hb.1 hb.2) ⟨p0, p1⟩⟩
  refine Le_areAlike hq.1.1 (by omega) (by omega) (fun z => h1 (fun p p0 p1 => ?_)) (fun z => h0 (fun y => z (fun p p0 p1 => ?_)))
  · have := key p p0 p1; have := z p p0 p1; omega
  · have := key p p0 p1; have := y p p0 p1; omega
