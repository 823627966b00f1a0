/-! Unlike and small questions, by the class (wip/whole/tools/m124.py). -/
theorem C_unlike20 {d : Nat} {X : cw_M} {Q : Option cw_V → cw_M → Prop} {K : Int → Int} {u k : Int} (hq : Q_c K X) (hk : 0 ≤ k ∧ k < ((R_K K).length : Int)) (ex : ∀ (b : Int) (w5 : cw_V), ((b = 1 ∧ ¬ ∃ i : Int, (0 ≤ i ∧ i < k) ∧ al_6 (G_R K) i k) ∨ (b = 0 ∧ ∃ i : Int, (0 ≤ i ∧ i < k) ∧ al_6 (G_R K) i k)) → cw_R (d + 14) k_C_unlike 73 [vr x_, vi ((R_K K).length : Int), vi u, vi k, vi b, w5] [] X Q) : cw_R (d + 14) k_C_unlike 20 [vr x_, vi ((R_K K).length : Int), vi u, vi k, vi 1, vi 0] [] X Q := by
  have rk := (R_Kr hq.1.2).1
  have lp : ∀ (r : Nat) (q b : Int), k < q + r → (0 ≤ q ∧ q ≤ k) → ((b = 1 ∧ ¬ ∃ i : Int, (0 ≤ i ∧ i < q) ∧ al_6 (G_R K) i k) ∨ (b = 0 ∧ ∃ i : Int, (0 ≤ i ∧ i < q) ∧ al_6 (G_R K) i k)) → cw_R (d + 14) k_C_unlike 20 [vr x_, vi ((R_K K).length : Int), vi u, vi k, vi b, vi q] [] X Q := by
    intro r
    induction r with
    | zero =>
      intro q b hr hq1 hb
      omega
    | succ r ih =>
      intro q b hr hq1 hb
      refine la_go_R hq.1.1 27 [20, 73] ?_
      refine And.intro (fun (c21 : k ≤ q) => ?_) (fun (c21 : ¬ (k ≤ q)) => ?_)
      · show cw_R _ _ 73 [vr x_, vi ((R_K K).length : Int), vi u, vi k, vi b, vi q] [] (X) _
        refine ex b _ ?_
        rcases hb with hb | hb
        · exact Or.inl ⟨hb.1, fun z => hb.2 (by obtain ⟨i, a, c⟩ := z; exact ⟨i, by omega, c⟩)⟩
        · exact Or.inr ⟨hb.1, by obtain ⟨i, a, c⟩ := hb.2; exact ⟨i, by omega, c⟩⟩
      · refine And.intro (fun (c22 : b = 0) => ?_) (fun (c22 : ¬ (b = 0)) => ?_)
        · show cw_R _ _ 73 [vr x_, vi ((R_K K).length : Int), vi u, vi k, vi b, vi q] [] (X) _
          refine ex b _ ?_
          rcases hb with hb | hb
          · exact Or.inl ⟨hb.1, fun z => hb.2 (by obtain ⟨i, a, c⟩ := z; exact ⟨i, by omega, c⟩)⟩
          · exact Or.inr ⟨hb.1, by obtain ⟨i, a, c⟩ := hb.2; exact ⟨i, by omega, c⟩⟩
        · refine And.intro (show 0 ≤ q ∧ q < 132 by omega) ?_
          refine And.intro (show 0 ≤ k ∧ k < 132 by omega) ?_
          show cw_C _ _ [vr x_ledger_, vi (X x_forest_list_ q), vi (X x_forest_list_ k)] (X) _
          refine C_alikeQ hq (by omega) (by omega) (fun (ax : al_6 (G_R K) q k) => ⟨hq.1.1, ?_⟩) (fun (ax : ¬ al_6 (G_R K) q k) => ⟨hq.1.1, ?_⟩)
          · refine br_t (show (1 : Int) ≠ 0 by decide) ?_
            refine And.intro (show -2147483648 ≤ q + 1 ∧ q + 1 < 2147483648 by omega) ?_
            show cw_R _ _ 20 [vr x_, vi ((R_K K).length : Int), vi u, vi k, vi 0, vi (q + 1)] [] (X) _
            exact ih (q + 1) 0 (by omega) (by omega) (Or.inr ⟨rfl, q, by omega, ax⟩)
          · refine br_f (show ¬ ((0 : Int) ≠ 0) by decide) ?_
            refine And.intro (show -2147483648 ≤ q + 1 ∧ q + 1 < 2147483648 by omega) ?_
            show cw_R _ _ 20 [vr x_, vi ((R_K K).length : Int), vi u, vi k, vi 1, vi (q + 1)] [] (X) _
            refine ih (q + 1) 1 (by omega) (by omega) (Or.inl ⟨rfl, ?_⟩)
            rintro ⟨i, a, c⟩
            by_cases z : i = q
            · rw [z] at c; exact ax c
            · have b1 : b = 1 := by omega
              rcases hb with hb | hb
              · exact hb.2 ⟨i, by omega, c⟩
              · omega
  exact lp (k.toNat + 1) 0 1 (by omega) (by omega) (Or.inl ⟨rfl, by rintro ⟨i, a, c⟩; omega⟩)
theorem C_unlike9 {d : Nat} {m X : cw_M} {Q : Option cw_V → cw_M → Prop} {K : Int → Int} {w4 w5 : cw_V} (hq : Q_c K X) (hV : V_s m X) (h : ∀ M, la_ok M → V_s m M → Z_c M K → Q (some (vi (u_n (G_R K) (R_K K).length))) M) : cw_R (d + 14) k_C_unlike 9 [vr x_, vi ((R_K K).length : Int), vi 0, vi 0, w4, w5] [] X Q := by
  have lp : ∀ (r : Nat) (k : Int) (w4 w5 : cw_V), ((R_K K).length : Int) < k + r → (0 ≤ k ∧ k ≤ ((R_K K).length : Int)) → cw_R (d + 14) k_C_unlike 9 [vr x_, vi ((R_K K).length : Int), vi (u_n (G_R K) k.toNat), vi k, w4, w5] [] X Q := by
    intro r
    induction r with
    | zero =>
      intro k w4 w5 hr hk
      omega
    | succ r ih =>
      intro k w4 w5 hr hk
      have ur := u_nr (g := G_R K) k.toNat
      have rk := (R_Kr hq.1.2).1
      refine la_go_R hq.1.1 10 [9, 20] ?_
      refine And.intro (fun (c21 : ((R_K K).length : Int) ≤ k) => ?_) (fun (c21 : ¬ (((R_K K).length : Int) ≤ k)) => ?_)
      · show Q (some (vi (u_n (G_R K) k.toNat))) (X)
        rw [show k.toNat = (R_K K).length by omega]
        exact h X hq.1.1 hV hq.2.1.2.1
      · show cw_R _ _ 20 [vr x_, vi ((R_K K).length : Int), vi (u_n (G_R K) k.toNat), vi k, vi 1, vi 0] [] (X) _
        refine C_unlike20 hq (by omega) (fun b w5 hb => ?_)
        refine la_go_R hq.1.1 8 [9] ?_
        refine And.intro (fun (c21 : b = 0) => ?_) (fun (c21 : ¬ (b = 0)) => ?_)
        · refine And.intro (show -2147483648 ≤ k + 1 ∧ k + 1 < 2147483648 by omega) ?_
          show cw_R _ _ 9 [vr x_, vi ((R_K K).length : Int), vi (u_n (G_R K) k.toNat), vi (k + 1), vi b, w5] [] (X) _
          rcases hb with hb | hb
          · omega
          · have e := u_n0 (g := G_R K) (k := k) (by omega) hb.2
            rw [Int.add_zero] at e
            rw [e]
            exact ih (k + 1) _ _ (by omega) (by omega)
        · refine And.intro (show -2147483648 ≤ (u_n (G_R K) k.toNat) + 1 ∧ (u_n (G_R K) k.toNat) + 1 < 2147483648 by omega) ?_
          refine And.intro (show -2147483648 ≤ k + 1 ∧ k + 1 < 2147483648 by omega) ?_
          show cw_R _ _ 9 [vr x_, vi ((R_K K).length : Int), vi ((u_n (G_R K) k.toNat) + 1), vi (k + 1), vi b, w5] [] (X) _
          rcases hb with hb | hb
          · rw [u_n1 (g := G_R K) (by omega) hb.2]
            exact ih (k + 1) _ _ (by omega) (by omega)
          · omega
  exact lp ((R_K K).length + 1) 0 w4 w5 (by omega) (by omega)
theorem C_unlike {d : Nat} {m : cw_M} {Q : Option cw_V → cw_M → Prop} {K : Int → Int} (hm : la_ok m) (hT : ∀ j, 0 ≤ j → j < 7 → m cw_TREES j = t_c j) (hK : K_r K) (hW : W_r m K) (hZ : Z_c m K) (h : ∀ M, la_ok M → V_s m M → Z_c M K → Q (some (vi (u_n (G_R K) (R_K K).length))) M) : cw_C (d + 14) k_C_unlike [vr x_] m Q := by
  refine la_go_C hm 10 [9] ?_
  show cw_C _ _ [vr x_] (m) _
  refine C_learnReadings hm hT hK hW hZ (fun (X : cw_M) (hV : V_s m X) (hq : Q_c K X) => ⟨hq.1.1, ?_⟩)
  show cw_R _ _ 9 [vr x_, vi ((R_K K).length : Int), vi 0, vi 0, none, none] [] (X) _
  exact C_unlike9 hq hV h
