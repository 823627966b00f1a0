/-! What is fair, what is ruled, by the class (wip/whole/tools/m126.py). -/
theorem m_b6 : ∀ (x y : Fin 64), (0 ≤ cw_iand (x.val : Int) (y.val : Int) ∧ cw_iand (x.val : Int) (y.val : Int) < 64) ∧ (0 ≤ cw_ior (x.val : Int) (y.val : Int) ∧ cw_ior (x.val : Int) (y.val : Int) < 64) := by decide +kernel
theorem m_b1 : ∀ (x : Fin 64), (x.val : Int) ≠ 0 → cw_iand (cw_ishr (x.val : Int) 0) 1 = 1 ∨ cw_iand (cw_ishr (x.val : Int) 1) 1 = 1 ∨ cw_iand (cw_ishr (x.val : Int) 2) 1 = 1 ∨ cw_iand (cw_ishr (x.val : Int) 3) 1 = 1 ∨ cw_iand (cw_ishr (x.val : Int) 4) 1 = 1 ∨ cw_iand (cw_ishr (x.val : Int) 5) 1 = 1 := by decide +kernel
theorem m_f64 {x : Int} (h : 0 ≤ x ∧ x < 64) : ∃ a : Fin 64, x = (a.val : Int) := ⟨⟨x.toNat, by omega⟩, by show x = (x.toNat : Int); omega⟩
theorem m_an {x y : Int} (hx : 0 ≤ x ∧ x < 64) (hy : 0 ≤ y ∧ y < 64) : 0 ≤ cw_iand x y ∧ cw_iand x y < 64 := by
  obtain ⟨a, rfl⟩ := m_f64 hx
  obtain ⟨b, rfl⟩ := m_f64 hy
  exact (m_b6 a b).1
theorem m_or {x y : Int} (hx : 0 ≤ x ∧ x < 64) (hy : 0 ≤ y ∧ y < 64) : 0 ≤ cw_ior x y ∧ cw_ior x y < 64 := by
  obtain ⟨a, rfl⟩ := m_f64 hx
  obtain ⟨b, rfl⟩ := m_f64 hy
  exact (m_b6 a b).2
theorem m_sh {n : Nat} (h : n < 6) : 0 ≤ cw_ishl 1 (n : Int) ∧ cw_ishl 1 (n : Int) < 64 := by
  rcases (by omega : n = 0 ∨ n = 1 ∨ n = 2 ∨ n = 3 ∨ n = 4 ∨ n = 5) with e | e | e | e | e | e <;> subst e <;> decide
theorem l_fitr {lv br : Int → Int} : ∀ n : Nat, n ≤ 6 → 0 ≤ l_fit lv br n ∧ l_fit lv br n < 64
  | 0, _ => ⟨(by decide : (0 : Int) ≤ 0), (by decide : (0 : Int) < 64)⟩
  | n + 1, h => by
    show 0 ≤ cw_ior (l_fit lv br n) _ ∧ cw_ior (l_fit lv br n) _ < 64
    refine m_or (l_fitr n (by omega)) ?_
    split
    · exact m_sh (by omega)
    · decide
theorem q_str {K : Int → Int} (hK : K_r K) : 0 ≤ q_st K ∧ q_st K < 64 := by
  have k46 := hK.1
  refine m_an (l_fitr 6 (by decide)) (f_mskr (K 46).toNat (fun i a b => hK.2.2.2.2.2.1 i a (by omega)))
/-- with somebody entitled, no bound matters -/
theorem lo_nq {K g : Int → Int} (hK : K_r K) (hg : ∀ i, 0 ≤ i → i < 6 → 0 ≤ g i ∧ g i ≤ 9999) (h : q_st K ≠ 0) : lo_n g (q_st K) 9999 6 = lo_n g (q_st K) 1000000 6 ∧ 0 ≤ lo_n g (q_st K) 9999 6 ∧ lo_n g (q_st K) 9999 6 ≤ 9999 := by
  obtain ⟨b1, b2⟩ := lo_nb (st := q_st K) hg 6 (by decide)
  rcases b2 with b2 | b2
  · exfalso
    obtain ⟨x, ex⟩ := m_f64 (q_str hK)
    have z := m_b1 x (by rw [← ex]; exact h)
    rw [← ex] at z
    rcases z with z | z | z | z | z | z
    · exact b2.2.2 0 (by decide) (by decide) z
    · exact b2.2.2 1 (by decide) (by decide) z
    · exact b2.2.2 2 (by decide) (by decide) z
    · exact b2.2.2 3 (by decide) (by decide) z
    · exact b2.2.2 4 (by decide) (by decide) z
    · exact b2.2.2 5 (by decide) (by decide) z
  · exact ⟨b2.symm, b1⟩
theorem C_leastOf {d : Nat} {X : cw_M} {Q : Option cw_V → cw_M → Prop} {K : Int → Int} {rd st : Int} (hq : Q_c K X) (hr : 0 ≤ rd ∧ rd < ((R_K K).length : Int)) (h : Q (some (vi (lo_n (G_R K rd) st 9999 6))) X) : cw_C (d + 1) k_C_leastOf [vr x_, vi rd, vi st] X Q := by
  have lp : ∀ (r : Nat) (k : Int), 6 < k + r → (0 ≤ k ∧ k ≤ 6) → cw_R (d + 1) k_C_leastOf 7 [vr x_, vi rd, vi st, vi (lo_n (G_R K rd) st 9999 k.toNat), vi k] [] X Q := by
    intro r
    induction r with
    | zero =>
      intro k hr hk
      omega
    | succ r ih =>
      intro k hr hk
      refine la_go_R hq.1.1 20 [7] ?_
      refine And.intro (fun (c21 : 6 ≤ k) => ?_) (fun (c21 : ¬ (6 ≤ k)) => ?_)
      · show Q (some (vi (lo_n (G_R K rd) st 9999 k.toNat))) (X)
        rw [show k.toNat = 6 by omega]
        exact h
      · show cw_C _ _ [vi st, vi k] (X) _
        refine C_bit hq.1.1 ⟨hq.1.1, ?_⟩
        refine And.intro (fun (c22 : cw_iand (cw_ishr st k) 1 ≠ 1) => ?_) (fun (c22 : ¬ (cw_iand (cw_ishr st k) 1 ≠ 1)) => ?_)
        · refine And.intro (show -2147483648 ≤ k + 1 ∧ k + 1 < 2147483648 by omega) ?_
          show cw_R _ _ 7 [vr x_, vi rd, vi st, vi (lo_n (G_R K rd) st 9999 k.toNat), vi (k + 1)] [] (X) _
          rw [(lo_ns (g := G_R K rd) (st := st) (b := 9999) (k := k) (by omega)).2 (by omega)]
          exact ih (k + 1) (by omega) (by omega)
        · show cw_C _ _ [vr x_, vi rd, vi k] (X) _
          refine C_amount hq.1.1 hq.1.2 hq.2.1.2 (by omega) (by omega) (hq.2.2 rd (by omega) (by omega)) ⟨hq.1.1, ?_⟩
          show cw_C _ _ [vi (lo_n (G_R K rd) st 9999 k.toNat), vi (G_R K rd k)] (X) _
          refine Jm_min ⟨hq.1.1, ?_⟩
          refine And.intro (show -2147483648 ≤ k + 1 ∧ k + 1 < 2147483648 by omega) ?_
          show cw_R _ _ 7 [vr x_, vi rd, vi st, vi (min (lo_n (G_R K rd) st 9999 k.toNat) (G_R K rd k)), vi (k + 1)] [] (X) _
          rw [(lo_ns (g := G_R K rd) (st := st) (b := 9999) (k := k) (by omega)).1 (by omega)]
          exact ih (k + 1) (by omega) (by omega)
  refine la_go_C hq.1.1 7 [7] ?_
  show cw_R _ _ 7 [vr x_, vi rd, vi st, vi 9999, vi 0] [] (X) _
  exact lp 7 0 (by omega) (by omega)
theorem C_fair63 {d : Nat} {m X : cw_M} {Q : Option cw_V → cw_M → Prop} {K : Int → Int} {w : Int} {w7 : cw_V} (hw : 0 ≤ w ∧ w < 2) (hst : q_st K ≠ 0) (hV : V_s m X) (hq : Q_c K X) (h : ∀ M, la_ok M → V_s m M → Z_c M K → Q (some (vi (q_fair K w))) M) : cw_R (d + 14) k_C_fair 63 [vr x_, vi w, vi ((R_K K).length : Int), vi (q_st K), vi (-1), vi (-1), vi 0, w7] [] X Q := by
  have lp : ∀ (r : Nat) (k : Int) (w7 : cw_V), ((R_K K).length : Int) < k + r → (0 ≤ k ∧ k ≤ ((R_K K).length : Int)) → cw_R (d + 14) k_C_fair 63 [vr x_, vi w, vi ((R_K K).length : Int), vi (q_st K), vi ((r_mx (fun i => lo_n (G_R K i) (q_st K) 1000000 6) k.toNat).1), vi ((r_mx (fun i => lo_n (G_R K i) (q_st K) 1000000 6) k.toNat).2), vi k, w7] [] X Q := by
    intro r
    induction r with
    | zero =>
      intro k w7 hr hk
      omega
    | succ r ih =>
      intro k w7 hr hk
      have rk := (R_Kr hq.1.2).1
      refine la_go_R hq.1.1 20 [63] ?_
      refine And.intro (fun (c21 : ((R_K K).length : Int) ≤ k) => ?_) (fun (c21 : ¬ (((R_K K).length : Int) ≤ k)) => ?_)
      · refine And.intro (fun (c22 : w ≠ 0) => ?_) (fun (c22 : ¬ (w ≠ 0)) => ?_)
        · show Q (some (vi ((r_mx (fun i => lo_n (G_R K i) (q_st K) 1000000 6) k.toNat).1))) (X)
          rw [show k.toNat = (R_K K).length by omega]
          have e : q_fair K w = (r_mx (fun i => lo_n (G_R K i) (q_st K) 1000000 6) (R_K K).length).1 := by unfold q_fair q_fr; rw [if_pos ⟨by omega, hst⟩, if_neg (by omega)]
          rw [← e]
          exact h X hq.1.1 hV hq.2.1.2.1
        · show Q (some (vi ((r_mx (fun i => lo_n (G_R K i) (q_st K) 1000000 6) k.toNat).2))) (X)
          rw [show k.toNat = (R_K K).length by omega]
          have e : q_fair K w = (r_mx (fun i => lo_n (G_R K i) (q_st K) 1000000 6) (R_K K).length).2 := by unfold q_fair q_fr; rw [if_pos ⟨by omega, hst⟩, if_pos (by omega)]
          rw [← e]
          exact h X hq.1.1 hV hq.2.1.2.1
      · show cw_C _ _ [vr x_, vi k, vi (q_st K)] (X) _
        refine C_leastOf hq (by omega) ⟨hq.1.1, ?_⟩
        have lq := lo_nq (g := G_R K k) hq.1.2 (fun i _ _ => G_Rr hq.1.2) hst
        refine And.intro (fun (c23 : lo_n (G_R K k) (q_st K) 9999 6 ≤ (r_mx (fun i => lo_n (G_R K i) (q_st K) 1000000 6) k.toNat).1) => ?_) (fun (c23 : ¬ (lo_n (G_R K k) (q_st K) 9999 6 ≤ (r_mx (fun i => lo_n (G_R K i) (q_st K) 1000000 6) k.toNat).1)) => ?_)
        · refine And.intro (show -2147483648 ≤ k + 1 ∧ k + 1 < 2147483648 by omega) ?_
          show cw_R _ _ 63 [vr x_, vi w, vi ((R_K K).length : Int), vi (q_st K), vi ((r_mx (fun i => lo_n (G_R K i) (q_st K) 1000000 6) k.toNat).1), vi ((r_mx (fun i => lo_n (G_R K i) (q_st K) 1000000 6) k.toNat).2), vi (k + 1), vi (lo_n (G_R K k) (q_st K) 9999 6)] [] (X) _
          have e2 := r_mx0 (g := (fun i => lo_n (G_R K i) (q_st K) 1000000 6)) (k := k) (by omega) (by show ¬ (r_mx (fun i => lo_n (G_R K i) (q_st K) 1000000 6) k.toNat).1 < lo_n (G_R K k) (q_st K) 1000000 6; omega)
          have ih2 := ih (k + 1) (vi (lo_n (G_R K k) (q_st K) 9999 6)) (by omega) (by omega)
          rw [e2] at ih2
          exact ih2
        · refine And.intro (show -2147483648 ≤ k + 1 ∧ k + 1 < 2147483648 by omega) ?_
          show cw_R _ _ 63 [vr x_, vi w, vi ((R_K K).length : Int), vi (q_st K), vi (lo_n (G_R K k) (q_st K) 9999 6), vi k, vi (k + 1), vi (lo_n (G_R K k) (q_st K) 9999 6)] [] (X) _
          have e2 := r_mx1 (g := (fun i => lo_n (G_R K i) (q_st K) 1000000 6)) (k := k) (by omega) (by show (r_mx (fun i => lo_n (G_R K i) (q_st K) 1000000 6) k.toNat).1 < lo_n (G_R K k) (q_st K) 1000000 6; omega)
          have ih2 := ih (k + 1) (vi (lo_n (G_R K k) (q_st K) 9999 6)) (by omega) (by omega)
          rw [e2] at ih2
          rw [show lo_n (G_R K k) (q_st K) 9999 6 = lo_n (G_R K k) (q_st K) 1000000 6 from lq.1] at ih2 ⊢
          exact ih2
  exact lp ((R_K K).length + 1) 0 w7 (by omega) (by omega)
theorem C_fair {d : Nat} {m : cw_M} {Q : Option cw_V → cw_M → Prop} {K : Int → Int} (hm : la_ok m) (hT : ∀ j, 0 ≤ j → j < 7 → m cw_TREES j = t_c j) (hK : K_r K) (hW : W_r m K) (hZ : Z_c m K) {w : Int} (h : ∀ M, la_ok M → V_s m M → Z_c M K → Q (some (vi (q_fair K w))) M) : cw_C (d + 14) k_C_fair [vr x_, vi w] m Q := by
  have rk := R_Kr hK
  have k46 := hK.1
  refine la_go_C hm 35 [63] ?_
  show cw_C _ _ [vi w, vi 2] (m) _
  refine C_isBelow (fun (a21 : 0 ≤ w) (a22 : w < 2) => ⟨hm, ?_⟩) (fun (a23 : ¬ (0 ≤ w ∧ w < 2)) => ⟨hm, ?_⟩)
  · refine br_t (show (1 : Int) ≠ 0 by decide) ?_
    show cw_C _ _ [vr x_] (m) _
    refine C_learnReadings hm hT hK hW hZ (fun (X : cw_M) (hV : V_s m X) (hq : Q_c K X) => ⟨hq.1.1, ?_⟩)
    have wn : X x_will_ 0 = K 46 := hq.2.1.1.1
    have eM : f_msk (X x_will_owner_) 0 (X x_will_ 0 - 1 + 1 - 0).toNat = f_msk (fun i => K (19 + i)) 0 (K 46).toNat := by rw [wn, show K 46 - 1 + 1 - 0 = K 46 by omega]; exact f_mskc _ (fun i a b => hq.2.1.1.2.1 i a (by omega))
    have eF : X x_ledger_paper_ 3 = F_K K := (hq.2.1.2.1.2.2.2 hq.2.1.2.2.2).2.2.2.1
    have eS : cw_iand (X x_ledger_paper_ 3) (f_msk (X x_will_owner_) 0 (X x_will_ 0 - 1 + 1 - 0).toNat) = q_st K := by rw [eM, eF]; rfl
    refine And.intro (show -2147483648 ≤ (X x_will_ 0) - 1 ∧ (X x_will_ 0) - 1 < 2147483648 by omega) ?_
    show cw_C _ _ [vr x_will_, vi 0, vi ((X x_will_ 0) - 1)] (X) _
    refine Wi_namedMask hq.1.1 (by omega) ⟨hq.1.1, ?_⟩
    refine And.intro (fun (c24 : ((R_K K).length : Int) = 0) => ?_) (fun (c24 : ¬ (((R_K K).length : Int) = 0)) => ?_)
    · show Q (some (vi (-1))) (X)
      have e : q_fair K w = -1 := by
        unfold q_fair
        by_cases z : q_st K = 0
        · rw [if_neg (fun q => q.2 z)]
        · have e0 : (R_K K).length = 0 := by omega
          rw [if_pos ⟨by omega, z⟩]
          unfold q_fr
          rw [e0]
          show (if w = 0 then (-1 : Int) else -1) = -1
          split <;> rfl
      rw [← e]
      exact h X hq.1.1 hV hq.2.1.2.1
    · refine And.intro (fun (c25 : cw_iand (X x_ledger_paper_ 3) (f_msk (X x_will_owner_) 0 (X x_will_ 0 - 1 + 1 - 0).toNat) ≠ 0) => ?_) (fun (c25 : ¬ (cw_iand (X x_ledger_paper_ 3) (f_msk (X x_will_owner_) 0 (X x_will_ 0 - 1 + 1 - 0).toNat) ≠ 0)) => ?_)
      · show cw_R _ _ 63 [vr x_, vi w, vi ((R_K K).length : Int), vi (cw_iand (X x_ledger_paper_ 3) (f_msk (X x_will_owner_) 0 (X x_will_ 0 - 1 + 1 - 0).toNat)), vi (-1), vi (-1), vi 0, none] [] (X) _
        rw [eS]
        exact C_fair63 (by omega) (by rw [← eS]; omega) hV hq h
      · show Q (some (vi (-1))) (X)
        have e : q_fair K w = -1 := by
          unfold q_fair
          by_cases z : q_st K = 0
          · rw [if_neg (fun q => q.2 z)]
          · have e0 : (R_K K).length = 0 := by omega
            rw [if_pos ⟨by omega, z⟩]
            unfold q_fr
            rw [e0]
            show (if w = 0 then (-1 : Int) else -1) = -1
            split <;> rfl
        rw [← e]
        exact h X hq.1.1 hV hq.2.1.2.1
  · refine br_f (show ¬ ((0 : Int) ≠ 0) by decide) ?_
    show Q (some (vi (-1))) (m)
    have e : q_fair K w = -1 := by unfold q_fair; rw [if_neg (by omega)]
    rw [← e]
    exact h m hm V_sr hZ
