/-! What fits, what is fair, by the class (wip/whole/tools/m125.py). -/
theorem Q_cf {K : Int → Int} {X Y : cw_M} (h : Q_c K X) (hY : la_ok Y) (e : ∀ c, c ≠ x_fitting_ → Y c = X c) : Q_c K Y := by
  have hV : V_s X Y := ⟨fun c a b => e c (U_n a (by decide)), fun j _ _ => by rw [e x_ (by decide)]⟩
  have hZ := h.2.1.2
  have hh : ∀ c, h_c c → Y c = X c := V_h (V_sp hV)
  have ex := e x_ (by decide)
  refine ⟨⟨hY, h.1.2⟩, ⟨W_rV h.2.1.1 hV, ⟨S_ce hZ.1.1 (e _ (by decide)) (e _ (by decide)) (e _ (by decide)) (e _ (by decide)) (by rw [ex]), fun i q => ?_, ?_, fun q => ?_⟩, ?_, ?_⟩, fun i a b => ?_⟩
  · rw [e _ (by decide), e _ (by decide)]; exact hZ.1.2.1 i q
  · rw [ex]; exact hZ.1.2.2.1
  · exact L_ce (hZ.1.2.2.2 hZ.2.2) (e _ (by decide)) (e _ (by decide)) (e _ (by decide)) (e _ (by decide)) hh (e _ (by decide))
  · rw [ex]; exact hZ.2.1
  · rw [ex]; exact hZ.2.2
  · rw [e _ (by decide)]; exact h.2.2 i a b
theorem Q_cV {X Y : cw_M} (e : ∀ c, c ≠ x_fitting_ → Y c = X c) : V_s X Y := ⟨fun c a b => e c (U_n a (by decide)), fun j _ _ => by rw [e x_ (by decide)]⟩
theorem lo_nb {g : Int → Int} {st : Int} (hg : ∀ i, 0 ≤ i → i < 6 → 0 ≤ g i ∧ g i ≤ 9999) : ∀ n : Nat, n ≤ 6 → (0 ≤ lo_n g st 9999 n ∧ lo_n g st 9999 n ≤ 9999) ∧ (lo_n g st 1000000 n = 1000000 ∧ lo_n g st 9999 n = 9999 ∧ (∀ p : Int, 0 ≤ p → p < n → cw_iand (cw_ishr st p) 1 ≠ 1) ∨ lo_n g st 1000000 n = lo_n g st 9999 n)
  | 0, _ => ⟨⟨(by decide : (0 : Int) ≤ 9999), (by decide : (9999 : Int) ≤ 9999)⟩, Or.inl ⟨rfl, rfl, fun p a b => by omega⟩⟩
  | n + 1, h => by
    obtain ⟨i1, i2⟩ := lo_nb (st := st) hg n (by omega)
    have gn := hg n (by omega) (by omega)
    show (0 ≤ (if cw_iand (cw_ishr st n) 1 = 1 then min (lo_n g st 9999 n) (g n) else lo_n g st 9999 n) ∧ (if cw_iand (cw_ishr st n) 1 = 1 then min (lo_n g st 9999 n) (g n) else lo_n g st 9999 n) ≤ 9999) ∧ ((if cw_iand (cw_ishr st n) 1 = 1 then min (lo_n g st 1000000 n) (g n) else lo_n g st 1000000 n) = 1000000 ∧ (if cw_iand (cw_ishr st n) 1 = 1 then min (lo_n g st 9999 n) (g n) else lo_n g st 9999 n) = 9999 ∧ _ ∨ (if cw_iand (cw_ishr st n) 1 = 1 then min (lo_n g st 1000000 n) (g n) else lo_n g st 1000000 n) = (if cw_iand (cw_ishr st n) 1 = 1 then min (lo_n g st 9999 n) (g n) else lo_n g st 9999 n))
    by_cases q : cw_iand (cw_ishr st n) 1 = 1
    · rw [if_pos q, if_pos q]
      refine ⟨by omega, Or.inr ?_⟩
      rcases i2 with i2 | i2 <;> omega
    · rw [if_neg q, if_neg q]
      refine ⟨i1, ?_⟩
      rcases i2 with i2 | i2
      · refine Or.inl ⟨i2.1, i2.2.1, fun p a b => ?_⟩
        by_cases e : p = n
        · rw [e]; exact q
        · exact i2.2.2 p a (by omega)
      · exact Or.inr i2
theorem C_gather15 {d : Nat} {X : cw_M} {Q : Option cw_V → cw_M → Prop} {K : Int → Int} {ft k : Int} (hq : Q_c K X) (hk : 0 ≤ k ∧ k < ((R_K K).length : Int)) (ex : ∀ (b : Int) (w5 : cw_V), ((b = 1 ∧ so_K K k) ∨ (b = 0 ∧ ¬ so_K K k)) → cw_R (d + 1) k_C_gatherFitting 73 [vr x_, vi ((R_K K).length : Int), vi ft, vi k, vi b, w5] [] X Q) : cw_R (d + 1) k_C_gatherFitting 15 [vr x_, vi ((R_K K).length : Int), vi ft, vi k, vi 1, vi 0] [] X Q := by
  have rk := (R_Kr hq.1.2).1
  have k48 := hq.1.2.2.2.2.2.2.2.2.2.2.2.1
  have lp : ∀ (r : Nat) (i b : Int), K 48 < i + r → (0 ≤ i ∧ i ≤ K 48) → ((b = 1 ∧ ∀ j, 0 ≤ j → j < i → G_R K k (K (31 + 2 * j)) = K (32 + 2 * j)) ∨ (b = 0 ∧ ¬ so_K K k)) → cw_R (d + 1) k_C_gatherFitting 15 [vr x_, vi ((R_K K).length : Int), vi ft, vi k, vi b, vi i] [] X Q := by
    intro r
    induction r with
    | zero =>
      intro i b hr hi hb
      omega
    | succ r ih =>
      intro i b hr hi hb
      have w8 : X x_will_ 8 = K 48 := hq.2.1.1.2.2.2.2.2.2.2.2.1
      have tld := fun (z : i < 6) => hq.2.1.1.2.2.2.2.2.2.2.2.2.1 i hi.1 z
      have tr := fun (z : i < 6) => hq.1.2.2.2.2.2.2.2.2.2.2.2.2.2.2.2.1 i hi.1 z
      have k48 := hq.1.2.2.2.2.2.2.2.2.2.2.2.1
      refine la_go_R hq.1.1 29 [15, 73] ?_
      refine And.intro (fun (c21 : X x_will_ 8 ≤ i) => ?_) (fun (c21 : ¬ (X x_will_ 8 ≤ i)) => ?_)
      · show cw_R _ _ 73 [vr x_, vi ((R_K K).length : Int), vi ft, vi k, vi b, vi i] [] (X) _
        refine ex b _ ?_
        rcases hb with hb | hb
        · exact Or.inl ⟨hb.1, fun j a c => hb.2 j a (by omega)⟩
        · exact Or.inr hb
      · refine And.intro (fun (c22 : b = 0) => ?_) (fun (c22 : ¬ (b = 0)) => ?_)
        · show cw_R _ _ 73 [vr x_, vi ((R_K K).length : Int), vi ft, vi k, vi b, vi i] [] (X) _
          refine ex b _ ?_
          rcases hb with hb | hb
          · exact Or.inl ⟨hb.1, fun j a c => hb.2 j a (by omega)⟩
          · exact Or.inr hb
        · refine And.intro (show 0 ≤ i ∧ i < 6 by omega) ?_
          have tl2 := tld (by omega)
          have tr2 := tr (by omega)
          show cw_C _ _ [vr x_, vi k, vi (X x_will_toldOf_ i)] (X) _
          refine C_amount hq.1.1 hq.1.2 hq.2.1.2 (by omega) (by omega) (hq.2.2 k (by omega) (by omega)) ⟨hq.1.1, ?_⟩
          refine And.intro (show 0 ≤ i ∧ i < 6 by omega) ?_
          refine And.intro (fun (c23 : G_R K k (X x_will_toldOf_ i) ≠ X x_will_toldMuch_ i) => ?_) (fun (c23 : ¬ (G_R K k (X x_will_toldOf_ i) ≠ X x_will_toldMuch_ i)) => ?_)
          · refine And.intro (show -2147483648 ≤ i + 1 ∧ i + 1 < 2147483648 by omega) ?_
            show cw_R _ _ 15 [vr x_, vi ((R_K K).length : Int), vi ft, vi k, vi 0, vi (i + 1)] [] (X) _
            refine ih (i + 1) 0 (by omega) (by omega) (Or.inr ⟨rfl, fun z => ?_⟩)
            have z1 := z i (by omega) (by omega)
            have tl := tld (by omega)
            rw [← tl.1, ← tl.2] at z1
            omega
          · refine And.intro (show -2147483648 ≤ i + 1 ∧ i + 1 < 2147483648 by omega) ?_
            show cw_R _ _ 15 [vr x_, vi ((R_K K).length : Int), vi ft, vi k, vi 1, vi (i + 1)] [] (X) _
            refine ih (i + 1) 1 (by omega) (by omega) (Or.inl ⟨rfl, fun j a c => ?_⟩)
            by_cases z : j = i
            · have tl := tld (by omega)
              rw [z, ← tl.1, ← tl.2]; omega
            · rcases hb with hb | hb
              · exact hb.2 j a (by omega)
              · omega
  exact lp ((K 48).toNat + 1) 0 1 (by omega) (by omega) (Or.inl ⟨rfl, fun j a c => by omega⟩)
theorem C_gather {d : Nat} {m : cw_M} {Q : Option cw_V → cw_M → Prop} {K : Int → Int} (hq : Q_c K m) (h : ∀ M, Q_c K M → (∀ c, c ≠ x_fitting_ → M c = m c) → (∀ i, 0 ≤ i → i < ((f_l K).length : Int) → M x_fitting_ i = t_g (f_l K) i) → Q (some (vi ((f_l K).length : Int))) M) : cw_C (d + 1) k_C_gatherFitting [vr x_, vi ((R_K K).length : Int)] m Q := by
  have lp : ∀ (r : Nat) (k : Int) (X : cw_M) (w4 w5 : cw_V), ((R_K K).length : Int) < k + r → (0 ≤ k ∧ k ≤ ((R_K K).length : Int)) → (Q_c K X) → (∀ c, c ≠ x_fitting_ → X c = m c) → (∀ i, 0 ≤ i → i < ((t_rl (so_K K) k.toNat).length : Int) → X x_fitting_ i = t_g (t_rl (so_K K) k.toNat) i) → cw_R (d + 1) k_C_gatherFitting 4 [vr x_, vi ((R_K K).length : Int), vi ((t_rl (so_K K) k.toNat).length : Int), vi k, w4, w5] [] X Q := by
    intro r
    induction r with
    | zero =>
      intro k X w4 w5 hr hk hq he hfi
      omega
    | succ r ih =>
      intro k X w4 w5 hr hk hq he hfi
      have rk := (R_Kr hq.1.2).1
      have tl := t_rll (P := so_K K) k.toNat
      refine la_go_R hq.1.1 10 [4, 15] ?_
      refine And.intro (fun (c21 : ((R_K K).length : Int) ≤ k) => ?_) (fun (c21 : ¬ (((R_K K).length : Int) ≤ k)) => ?_)
      · show Q (some (vi ((t_rl (so_K K) k.toNat).length : Int))) (X)
        have ek : k.toNat = (R_K K).length := by omega
        rw [ek]
        rw [ek] at hfi
        exact h X hq he hfi
      · show cw_R _ _ 15 [vr x_, vi ((R_K K).length : Int), vi ((t_rl (so_K K) k.toNat).length : Int), vi k, vi 1, vi 0] [] (X) _
        refine C_gather15 hq (by omega) (fun b w5 hb => ?_)
        refine la_go_R hq.1.1 13 [4] ?_
        refine And.intro (fun (c21 : b = 0) => ?_) (fun (c21 : ¬ (b = 0)) => ?_)
        · refine And.intro (show -2147483648 ≤ k + 1 ∧ k + 1 < 2147483648 by omega) ?_
          show cw_R _ _ 4 [vr x_, vi ((R_K K).length : Int), vi ((t_rl (so_K K) k.toNat).length : Int), vi (k + 1), vi b, w5] [] (X) _
          have hs : ¬ so_K K k := by rcases hb with hb | hb; omega; exact hb.2
          have e1 := (t_rls (P := so_K K) (k := k) (by omega)).2 hs
          rw [← e1]
          exact ih (k + 1) X _ _ (by omega) (by omega) hq he (by rw [e1]; exact hfi)
        · refine And.intro (show 0 ≤ ((t_rl (so_K K) k.toNat).length : Int) ∧ ((t_rl (so_K K) k.toNat).length : Int) < 132 by omega) ?_
          have hm22 : la_ok (cw_put X x_fitting_ ((t_rl (so_K K) k.toNat).length : Int) k) := la_put hq.1.1 (by decide) (Or.inr (by decide))
          refine And.intro (show -2147483648 ≤ ((t_rl (so_K K) k.toNat).length : Int) + 1 ∧ ((t_rl (so_K K) k.toNat).length : Int) + 1 < 2147483648 by omega) ?_
          refine And.intro (show -2147483648 ≤ k + 1 ∧ k + 1 < 2147483648 by omega) ?_
          show cw_R _ _ 4 [vr x_, vi ((R_K K).length : Int), vi (((t_rl (so_K K) k.toNat).length : Int) + 1), vi (k + 1), vi b, w5] [] (cw_put X x_fitting_ ((t_rl (so_K K) k.toNat).length : Int) k) _
          have hs : so_K K k := by rcases hb with hb | hb; exact hb.2; omega
          have e1 := (t_rls (P := so_K K) (k := k) (by omega)).1 hs
          have e2 : ((t_rl (so_K K) k.toNat).length : Int) + 1 = ((t_rl (so_K K) (k + 1).toNat).length : Int) := by rw [e1, List.length_append]; rfl
          rw [e2]
          have fr : ∀ c, c ≠ x_fitting_ → cw_put X x_fitting_ ((t_rl (so_K K) k.toNat).length : Int) k c = X c := fun c a => cw_put_ne a
          refine ih (k + 1) _ _ _ (by omega) (by omega) (Q_cf hq (la_put hq.1.1 (by decide) (Or.inr (by decide))) fr) (fun c a => by rw [fr c a]; exact he c a) (fun i a b => ?_)
          rw [e1]
          by_cases z : i = ((t_rl (so_K K) k.toNat).length : Int)
          · rw [z, cw_put_eq, t_g2]
          · rw [cw_put_off z]
            have zb : i < ((t_rl (so_K K) k.toNat).length : Int) := by omega
            rw [t_g1 ⟨a, zb⟩]
            exact hfi i a zb
  refine la_go_C hq.1.1 7 [4] ?_
  show cw_R _ _ 4 [vr x_, vi ((R_K K).length : Int), vi 0, vi 0, none, none] [] (m) _
  exact lp ((R_K K).length + 1) 0 m _ _ (by omega) (by omega) hq (fun _ _ => rfl) (fun i a b => by have b2 : i < 0 := b; omega)
theorem C_fits {d : Nat} {m : cw_M} {Q : Option cw_V → cw_M → Prop} {K : Int → Int} (hm : la_ok m) (hT : ∀ j, 0 ≤ j → j < 7 → m cw_TREES j = t_c j) (hK : K_r K) (hW : W_r m K) (hZ : Z_c m K) {i : Int} (h : ∀ M, la_ok M → V_s m M → Z_c M K → Q (some (vi (q_fits K i))) M) : cw_C (d + 14) k_C_fits [vr x_, vi i] m Q := by
  have rk := (R_Kr hK).1
  have fl : (f_l K).length ≤ (R_K K).length := t_rll (R_K K).length
  refine la_go_C hm 23 [] ?_
  show cw_C _ _ [vr x_] (m) _
  refine C_learnReadings hm hT hK hW hZ (fun (X : cw_M) (hV : V_s m X) (hq : Q_c K X) => ⟨hq.1.1, ?_⟩)
  show cw_C _ _ [vr x_, vi ((R_K K).length : Int)] (X) _
  refine C_gather hq (fun (Y : cw_M) (hqY : Q_c K Y) (heY : ∀ c, c ≠ x_fitting_ → Y c = X c) (hfY : ∀ i, 0 ≤ i → i < ((f_l K).length : Int) → Y x_fitting_ i = t_g (f_l K) i) => ⟨hqY.1.1, ?_⟩)
  refine And.intro (fun (c21 : i ≠ (-1)) => ?_) (fun (c21 : ¬ (i ≠ (-1))) => ?_)
  · show cw_C _ _ [vi i, vi ((f_l K).length : Int)] (Y) _
    refine C_isBelow (fun (a22 : 0 ≤ i) (a23 : i < ((f_l K).length : Int)) => ⟨hqY.1.1, ?_⟩) (fun (a24 : ¬ (0 ≤ i ∧ i < ((f_l K).length : Int))) => ⟨hqY.1.1, ?_⟩)
    · refine br_f (show ¬ ((1 : Int) = 0) by decide) ?_
      refine And.intro (show 0 ≤ i ∧ i < 132 by omega) ?_
      show Q (some (vi (Y x_fitting_ i))) (Y)
      have e : q_fits K i = Y x_fitting_ i := by unfold q_fits; rw [if_neg (by omega), if_pos (by omega)]; exact (hfY i (by omega) (by omega)).symm
      rw [← e]
      exact h Y hqY.1.1 (V_st hV (Q_cV heY)) hqY.2.1.2.1
    · refine br_t (show (0 : Int) = 0 by decide) ?_
      show Q (some (vi (-1))) (Y)
      have e : q_fits K i = -1 := by unfold q_fits; rw [if_neg (by omega), if_neg (by omega)]
      rw [← e]
      exact h Y hqY.1.1 (V_st hV (Q_cV heY)) hqY.2.1.2.1
  · show Q (some (vi ((f_l K).length : Int))) (Y)
    have e : q_fits K i = ((f_l K).length : Int) := by unfold q_fits; rw [if_pos (by omega)]
    rw [← e]
    exact h Y hqY.1.1 (V_st hV (Q_cV heY)) hqY.2.1.2.1
