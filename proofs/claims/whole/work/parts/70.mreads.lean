/-! The reference reads sums (wip/whole/tools/m70.py). -/
theorem p_Nok {n i l i1 l1 : Int} {D : p_D} {st : Bool} {r : p_R} (h : p_N n i l st r) (e : r = .ok (i1, l1, D)) : i ≤ i1 ∧ i1 ≤ n ∧ l ≤ l1 ∧ l1 ≤ 50 ∧ (st = true → i < i1 ∧ l < l1) := by
  rw [e] at h; exact h
theorem M_readTerm5b {d : Nat} {m : cw_M} {Q : Option cw_V → cw_M → Prop} {tk lv bd dp : Int} (hm0 : la_ok m) (hbd : 0 ≤ bd) (h : Q none (y_m m tk lv bd)) : cw_R (d + 2) k_M_readTerm 5 [vr m_, vi dp] [] (y_m m tk lv bd) Q := by
  have hm : la_ok (y_m m tk lv bd) := y_m_ok hm0
  refine la_go_R hm 19 [] ?_
  show cw_C _ _ [vi 42] (y_m m tk lv bd) _
  refine M_sign (by decide) rfl ⟨hm, ?_⟩
  show cw_C _ _ [vr m_, vi 142] (y_m m tk lv bd) _
  refine M_takes00 hm0 (by omega) ⟨hm, ?_⟩
  refine br_f (show ¬ ((0 : Int) ≠ 0) by decide) ?_
  show cw_C _ _ [vi 47] (y_m m tk lv bd) _
  refine M_sign (by decide) rfl ⟨hm, ?_⟩
  show cw_C _ _ [vr m_, vi 147] (y_m m tk lv bd) _
  refine M_takes00 hm0 (by omega) ⟨hm, ?_⟩
  refine br_f (show ¬ ((0 : Int) ≠ 0) by decide) ?_
  show cw_C _ _ [vi 37] (y_m m tk lv bd) _
  refine M_sign (by decide) rfl ⟨hm, ?_⟩
  show cw_C _ _ [vr m_, vi 137] (y_m m tk lv bd) _
  refine M_takes00 hm0 (by omega) ⟨hm, ?_⟩
  refine br_t (show (0 : Int) = 0 by decide) ?_
  show Q none (y_m m tk lv bd)
  exact h
theorem M_readSum5b {d : Nat} {m : cw_M} {Q : Option cw_V → cw_M → Prop} {tk lv bd dp : Int} (hm0 : la_ok m) (hbd : 0 ≤ bd) (h : Q none (y_m m tk lv bd)) : cw_R (d + 2) k_M_readSum 5 [vr m_, vi dp] [] (y_m m tk lv bd) Q := by
  have hm : la_ok (y_m m tk lv bd) := y_m_ok hm0
  refine la_go_R hm 14 [] ?_
  show cw_C _ _ [vi 43] (y_m m tk lv bd) _
  refine M_sign (by decide) rfl ⟨hm, ?_⟩
  show cw_C _ _ [vr m_, vi 143] (y_m m tk lv bd) _
  refine M_takes00 hm0 (by omega) ⟨hm, ?_⟩
  refine br_f (show ¬ ((0 : Int) ≠ 0) by decide) ?_
  show cw_C _ _ [vi 45] (y_m m tk lv bd) _
  refine M_sign (by decide) rfl ⟨hm, ?_⟩
  show cw_C _ _ [vr m_, vi 145] (y_m m tk lv bd) _
  refine M_takes00 hm0 (by omega) ⟨hm, ?_⟩
  refine br_t (show (0 : Int) = 0 by decide) ?_
  show Q none (y_m m tk lv bd)
  exact h
theorem M_readS {m : cw_M} {c v pl : Int → Int} {o : Bool} {n : Int} (hm0 : la_ok m) (hY : Y_h m c v pl o n) : ∀ (f : Nat), (∀ (d : Nat) (dp i l : Int) (acc : p_D) (Q : Option cw_V → cw_M → Prop), 0 ≤ i → i ≤ n → 0 ≤ l → l ≤ 50 → 0 ≤ dp → dp ≤ 8 → 27 - 3 * dp ≤ d → 1 + 5 * (n - i) ≤ f → (∀ i1 l1 D, p_s c v o f 0 dp i l acc = .ok (i1, l1, D) → Q none (y_m m i1 l1 (-1))) → (∀ er tk lv bd, p_s c v o f 0 dp i l acc = .error er → bd = pl er → 0 ≤ bd → Q none (y_m m tk lv bd)) → cw_C d k_M_readPart [vr m_, vi dp] (y_m m i l (-1)) Q) ∧ (∀ (d : Nat) (dp i l : Int) (acc : p_D) (Q : Option cw_V → cw_M → Prop), 0 ≤ i → i ≤ n → 0 ≤ l → l ≤ 50 → 0 ≤ dp → dp ≤ 8 → 28 - 3 * dp ≤ d → 2 + 5 * (n - i) ≤ f → (∀ i1 l1 D, p_s c v o f 1 dp i l acc = .ok (i1, l1, D) → Q none (y_m m i1 l1 (-1))) → (∀ er tk lv bd, p_s c v o f 1 dp i l acc = .error er → bd = pl er → 0 ≤ bd → Q none (y_m m tk lv bd)) → cw_C d k_M_readTerm [vr m_, vi dp] (y_m m i l (-1)) Q) ∧ (∀ (d : Nat) (dp i l : Int) (acc : p_D) (Q : Option cw_V → cw_M → Prop), 0 ≤ i → i ≤ n → 0 ≤ l → l ≤ 50 → 0 ≤ dp → dp ≤ 8 → 28 - 3 * dp ≤ d → 1 + 5 * (n - i) ≤ f → (∀ i1 l1 D, p_s c v o f 2 dp i l acc = .ok (i1, l1, D) → Q none (y_m m i1 l1 (-1))) → (∀ er tk lv bd, p_s c v o f 2 dp i l acc = .error er → bd = pl er → 0 ≤ bd → Q none (y_m m tk lv bd)) → cw_R d k_M_readTerm 5 [vr m_, vi dp] [] (y_m m i l (-1)) Q) ∧ (∀ (d : Nat) (dp i l : Int) (acc : p_D) (Q : Option cw_V → cw_M → Prop), 0 ≤ i → i ≤ n → 0 ≤ l → l ≤ 50 → 0 ≤ dp → dp ≤ 8 → 29 - 3 * dp ≤ d → 3 + 5 * (n - i) ≤ f → (∀ i1 l1 D, p_s c v o f 3 dp i l acc = .ok (i1, l1, D) → Q none (y_m m i1 l1 (-1))) → (∀ er tk lv bd, p_s c v o f 3 dp i l acc = .error er → bd = pl er → 0 ≤ bd → Q none (y_m m tk lv bd)) → cw_C d k_M_readSum [vr m_, vi dp] (y_m m i l (-1)) Q) ∧ (∀ (d : Nat) (dp i l : Int) (acc : p_D) (Q : Option cw_V → cw_M → Prop), 0 ≤ i → i ≤ n → 0 ≤ l → l ≤ 50 → 0 ≤ dp → dp ≤ 8 → 29 - 3 * dp ≤ d → 1 + 5 * (n - i) ≤ f → (∀ i1 l1 D, p_s c v o f 4 dp i l acc = .ok (i1, l1, D) → Q none (y_m m i1 l1 (-1))) → (∀ er tk lv bd, p_s c v o f 4 dp i l acc = .error er → bd = pl er → 0 ≤ bd → Q none (y_m m tk lv bd)) → cw_R d k_M_readSum 5 [vr m_, vi dp] [] (y_m m i l (-1)) Q)
  | 0 => ⟨fun d dp i l acc Q a1 a2 a3 a4 a5 a6 a7 a8 => by omega, fun d dp i l acc Q a1 a2 a3 a4 a5 a6 a7 a8 => by omega, fun d dp i l acc Q a1 a2 a3 a4 a5 a6 a7 a8 => by omega, fun d dp i l acc Q a1 a2 a3 a4 a5 a6 a7 a8 => by omega, fun d dp i l acc Q a1 a2 a3 a4 a5 a6 a7 a8 => by omega⟩
  | f + 1 => by
    have ih := M_readS hm0 hY f
    refine ⟨?_, ?_, ?_, ?_, ?_⟩
    · intro d0 dp i l acc Q h0 h1 hl0 hl1 hd0 hd8 hd hf hok her
      obtain ⟨d, rfl⟩ : ∃ k, d0 = k + 3 := ⟨d0 - 3, by omega⟩
      have yn := hY.1
      have y := hY.2.2.1 i h0 h1
      have hm : la_ok (y_m m i l (-1)) := y_m_ok hm0
      have y10 := hY.2.2.2.1
      have y8 := hY.2.2.2.2.1
      have y9 := hY.2.2.2.2.2
      have hlt : c i ≠ 0 → i < n := fun q => by
        by_cases e : i = n
        · rw [e, hY.2.1] at q; exact absurd rfl q
        · omega
      have hfw : 8 ≤ m m_ 8 := by rw [y8]; exact p_fw8
      have hin : c i = 191 ∨ c i = 50 ∨ m m_ 8 ≤ c i → i < n := fun q => hlt (by omega)
      refine la_go_C hm 51 [] ?_
      show cw_C _ _ [vr m_] (y_m m i l (-1)) _
      refine M_fine1 hm0 ⟨hm, ?_⟩
      refine br_t (show (1 : Int) ≠ 0 by decide) ?_
      refine And.intro (show 0 ≤ i ∧ i < 401 by omega) ?_
      show cw_C _ _ [vi 91] (y_m m i l (-1)) _
      refine M_sign (by decide) rfl ⟨hm, ?_⟩
      refine And.intro (fun (c1 : m m_code_ i ≠ 191) => ?_) (fun (c1 : ¬ (m m_code_ i ≠ 191)) => ?_)
      · refine And.intro (fun (c2 : m m_code_ i ≠ 50) => ?_) (fun (c2 : ¬ (m m_code_ i ≠ 50)) => ?_)
        · refine And.intro (fun (c3 : m m_code_ i < m m_ 8) => ?_) (fun (c3 : ¬ (m m_code_ i < m m_ 8)) => ?_)
          · show cw_C _ _ [vr m_] (y_m m i l (-1)) _
            refine M_faults1 hm0 hY (by omega) (by omega) (fun (b4 : Int) (eb4 : b4 = pl i) (nb4 : 0 ≤ b4) => ⟨(y_m_ok hm0), ?_⟩)
            show Q none (y_m m i l b4)
            cases ho : o with
            | true =>
              rw [ho] at y10 y8 y9
              have y10 : m m_ 10 = 1 := y10
              have y8 : m m_ 8 = 15 := y8
              have y9 : m m_ 9 = 21 := y9
              first
                | (exfalso; omega)
                | exact her _ _ _ _ (by rw [p_s0, ho, if_pos (by omega), if_pos (by omega)]) eb4 nb4
                | exact her _ _ _ _ (by rw [p_s0, ho, if_neg (by omega), if_pos (by rw [show p_fw true = 15 from rfl, show p_la true = 21 from rfl]; omega), if_pos (by omega)]) eb4 nb4
                | exact her _ _ _ _ (by rw [p_s0, ho, if_neg (by omega), if_neg (by rw [show p_fw true = 15 from rfl, show p_la true = 21 from rfl]; omega)]) eb4 nb4
                | exact her _ _ _ _ (by rw [p_s0, ho, if_neg (by omega), if_pos (by rw [show p_fw true = 15 from rfl, show p_la true = 21 from rfl]; omega), if_neg (by omega), if_neg (by omega), if_pos ⟨rfl, by omega⟩, if_neg (by have := hY.2.2.1 (i + 1) (by omega) (by omega); omega)]) eb4 nb4
            | false =>
              rw [ho] at y10 y8 y9
              have y10 : m m_ 10 = 0 := y10
              have y8 : m m_ 8 = 8 := y8
              have y9 : m m_ 9 = 15 := y9
              first
                | (exfalso; omega)
                | exact her _ _ _ _ (by rw [p_s0, ho, if_pos (by omega), if_pos (by omega)]) eb4 nb4
                | exact her _ _ _ _ (by rw [p_s0, ho, if_neg (by omega), if_pos (by rw [show p_fw false = 8 from rfl, show p_la false = 15 from rfl]; omega), if_pos (by omega)]) eb4 nb4
                | exact her _ _ _ _ (by rw [p_s0, ho, if_neg (by omega), if_neg (by rw [show p_fw false = 8 from rfl, show p_la false = 15 from rfl]; omega)]) eb4 nb4
          · refine And.intro (fun (c5 : m m_ 9 < m m_code_ i) => ?_) (fun (c5 : ¬ (m m_ 9 < m m_code_ i)) => ?_)
            · show cw_C _ _ [vr m_] (y_m m i l (-1)) _
              refine M_faults1 hm0 hY (by omega) (by omega) (fun (b6 : Int) (eb6 : b6 = pl i) (nb6 : 0 ≤ b6) => ⟨(y_m_ok hm0), ?_⟩)
              show Q none (y_m m i l b6)
              cases ho : o with
              | true =>
                rw [ho] at y10 y8 y9
                have y10 : m m_ 10 = 1 := y10
                have y8 : m m_ 8 = 15 := y8
                have y9 : m m_ 9 = 21 := y9
                first
                  | (exfalso; omega)
                  | exact her _ _ _ _ (by rw [p_s0, ho, if_pos (by omega), if_pos (by omega)]) eb6 nb6
                  | exact her _ _ _ _ (by rw [p_s0, ho, if_neg (by omega), if_pos (by rw [show p_fw true = 15 from rfl, show p_la true = 21 from rfl]; omega), if_pos (by omega)]) eb6 nb6
                  | exact her _ _ _ _ (by rw [p_s0, ho, if_neg (by omega), if_neg (by rw [show p_fw true = 15 from rfl, show p_la true = 21 from rfl]; omega)]) eb6 nb6
                  | exact her _ _ _ _ (by rw [p_s0, ho, if_neg (by omega), if_pos (by rw [show p_fw true = 15 from rfl, show p_la true = 21 from rfl]; omega), if_neg (by omega), if_neg (by omega), if_pos ⟨rfl, by omega⟩, if_neg (by have := hY.2.2.1 (i + 1) (by omega) (by omega); omega)]) eb6 nb6
              | false =>
                rw [ho] at y10 y8 y9
                have y10 : m m_ 10 = 0 := y10
                have y8 : m m_ 8 = 8 := y8
                have y9 : m m_ 9 = 15 := y9
                first
                  | (exfalso; omega)
                  | exact her _ _ _ _ (by rw [p_s0, ho, if_pos (by omega), if_pos (by omega)]) eb6 nb6
                  | exact her _ _ _ _ (by rw [p_s0, ho, if_neg (by omega), if_pos (by rw [show p_fw false = 8 from rfl, show p_la false = 15 from rfl]; omega), if_pos (by omega)]) eb6 nb6
                  | exact her _ _ _ _ (by rw [p_s0, ho, if_neg (by omega), if_neg (by rw [show p_fw false = 8 from rfl, show p_la false = 15 from rfl]; omega)]) eb6 nb6
            · show cw_C _ _ [vr m_] (y_m m i l (-1)) _
              refine M_leaf1 hm0 hY (by omega) (by omega) (by omega) (fun (a7 : l ≠ 50) => ⟨(y_m_ok hm0), ?_⟩) (fun (a7 : l = 50) (b8 : Int) (eb8 : b8 = pl i) (nb8 : 0 ≤ b8) => ⟨(y_m_ok hm0), ?_⟩)
              · refine And.intro (fun (c9 : m m_ 10 = 0) => ?_) (fun (c9 : ¬ (m m_ 10 = 0)) => ?_)
                · show Q none (y_m m (i + 1) (l + 1) (-1))
                  cases ho : o with
                  | true =>
                    rw [ho] at y10 y8 y9
                    have y10 : m m_ 10 = 1 := y10
                    have y8 : m m_ 8 = 15 := y8
                    have y9 : m m_ 9 = 21 := y9
                    first
                      | (exfalso; omega)
                      | exact hok _ _ _ (by rw [p_s0, ho, if_neg (by omega), if_pos (by rw [show p_fw true = 15 from rfl, show p_la true = 21 from rfl]; omega), if_neg (by omega), if_pos (by omega)])
                      | (rw [show i + 1 + 1 = i + 2 by omega]; exact hok _ _ _ (by rw [p_s0, ho, if_neg (by omega), if_pos (by rw [show p_fw true = 15 from rfl, show p_la true = 21 from rfl]; omega), if_neg (by omega), if_neg (by omega), if_pos ⟨rfl, by omega⟩, if_pos (by omega)]))
                      | exact hok _ _ _ (by rw [p_s0, ho, if_neg (by omega), if_pos (by rw [show p_fw true = 15 from rfl, show p_la true = 21 from rfl]; omega), if_neg (by omega), if_neg (by omega), if_neg (fun q => by have := q.2; omega)])
                  | false =>
                    rw [ho] at y10 y8 y9
                    have y10 : m m_ 10 = 0 := y10
                    have y8 : m m_ 8 = 8 := y8
                    have y9 : m m_ 9 = 15 := y9
                    first
                      | (exfalso; omega)
                      | exact hok _ _ _ (by rw [p_s0, ho, if_neg (by omega), if_pos (by rw [show p_fw false = 8 from rfl, show p_la false = 15 from rfl]; omega), if_neg (by omega), if_pos (by omega)])
                      | exact hok _ _ _ (by rw [p_s0, ho, if_neg (by omega), if_pos (by rw [show p_fw false = 8 from rfl, show p_la false = 15 from rfl]; omega), if_neg (by omega), if_neg (by omega), if_neg (fun q => by cases q.1)])
                · refine And.intro (fun (c10 : m m_code_ i = 20) => ?_) (fun (c10 : ¬ (m m_code_ i = 20)) => ?_)
                  · show cw_C _ _ [vr m_, vi 0, vi 5] (y_m m (i + 1) (l + 1) (-1)) _
                    refine M_mustNumber1 hm0 hY (by omega) (by omega) (fun (a11 : c (i + 1) = 50) (a12 : 0 ≤ v (i + 1)) (a13 : v (i + 1) ≤ 5) => ⟨(y_m_ok hm0), ?_⟩) (fun (a11 : ¬ (c (i + 1) = 50 ∧ 0 ≤ v (i + 1) ∧ v (i + 1) ≤ 5)) (b14 : Int) (eb14 : b14 = pl (i + 1)) (nb14 : 0 ≤ b14) => ⟨(y_m_ok hm0), ?_⟩)
                    · show Q none (y_m m ((i + 1) + 1) (l + 1) (-1))
                      cases ho : o with
                      | true =>
                        rw [ho] at y10 y8 y9
                        have y10 : m m_ 10 = 1 := y10
                        have y8 : m m_ 8 = 15 := y8
                        have y9 : m m_ 9 = 21 := y9
                        first
                          | (exfalso; omega)
                          | exact hok _ _ _ (by rw [p_s0, ho, if_neg (by omega), if_pos (by rw [show p_fw true = 15 from rfl, show p_la true = 21 from rfl]; omega), if_neg (by omega), if_pos (by omega)])
                          | (rw [show i + 1 + 1 = i + 2 by omega]; exact hok _ _ _ (by rw [p_s0, ho, if_neg (by omega), if_pos (by rw [show p_fw true = 15 from rfl, show p_la true = 21 from rfl]; omega), if_neg (by omega), if_neg (by omega), if_pos ⟨rfl, by omega⟩, if_pos (by omega)]))
                          | exact hok _ _ _ (by rw [p_s0, ho, if_neg (by omega), if_pos (by rw [show p_fw true = 15 from rfl, show p_la true = 21 from rfl]; omega), if_neg (by omega), if_neg (by omega), if_neg (fun q => by have := q.2; omega)])
                      | false =>
                        rw [ho] at y10 y8 y9
                        have y10 : m m_ 10 = 0 := y10
                        have y8 : m m_ 8 = 8 := y8
                        have y9 : m m_ 9 = 15 := y9
                        first
                          | (exfalso; omega)
                          | exact hok _ _ _ (by rw [p_s0, ho, if_neg (by omega), if_pos (by rw [show p_fw false = 8 from rfl, show p_la false = 15 from rfl]; omega), if_neg (by omega), if_pos (by omega)])
                          | exact hok _ _ _ (by rw [p_s0, ho, if_neg (by omega), if_pos (by rw [show p_fw false = 8 from rfl, show p_la false = 15 from rfl]; omega), if_neg (by omega), if_neg (by omega), if_neg (fun q => by cases q.1)])
                    · show Q none (y_m m (i + 1) (l + 1) b14)
                      cases ho : o with
                      | true =>
                        rw [ho] at y10 y8 y9
                        have y10 : m m_ 10 = 1 := y10
                        have y8 : m m_ 8 = 15 := y8
                        have y9 : m m_ 9 = 21 := y9
                        first
                          | (exfalso; omega)
                          | exact her _ _ _ _ (by rw [p_s0, ho, if_pos (by omega), if_pos (by omega)]) eb14 nb14
                          | exact her _ _ _ _ (by rw [p_s0, ho, if_neg (by omega), if_pos (by rw [show p_fw true = 15 from rfl, show p_la true = 21 from rfl]; omega), if_pos (by omega)]) eb14 nb14
                          | exact her _ _ _ _ (by rw [p_s0, ho, if_neg (by omega), if_neg (by rw [show p_fw true = 15 from rfl, show p_la true = 21 from rfl]; omega)]) eb14 nb14
                          | exact her _ _ _ _ (by rw [p_s0, ho, if_neg (by omega), if_pos (by rw [show p_fw true = 15 from rfl, show p_la true = 21 from rfl]; omega), if_neg (by omega), if_neg (by omega), if_pos ⟨rfl, by omega⟩, if_neg (by have := hY.2.2.1 (i + 1) (by omega) (by omega); omega)]) eb14 nb14
                      | false =>
                        rw [ho] at y10 y8 y9
                        have y10 : m m_ 10 = 0 := y10
                        have y8 : m m_ 8 = 8 := y8
                        have y9 : m m_ 9 = 15 := y9
                        first
                          | (exfalso; omega)
                          | exact her _ _ _ _ (by rw [p_s0, ho, if_pos (by omega), if_pos (by omega)]) eb14 nb14
                          | exact her _ _ _ _ (by rw [p_s0, ho, if_neg (by omega), if_pos (by rw [show p_fw false = 8 from rfl, show p_la false = 15 from rfl]; omega), if_pos (by omega)]) eb14 nb14
                          | exact her _ _ _ _ (by rw [p_s0, ho, if_neg (by omega), if_neg (by rw [show p_fw false = 8 from rfl, show p_la false = 15 from rfl]; omega)]) eb14 nb14
                  · refine And.intro (fun (c15 : m m_code_ i ≠ 21) => ?_) (fun (c15 : ¬ (m m_code_ i ≠ 21)) => ?_)
                    · show Q none (y_m m (i + 1) (l + 1) (-1))
                      cases ho : o with
                      | true =>
                        rw [ho] at y10 y8 y9
                        have y10 : m m_ 10 = 1 := y10
                        have y8 : m m_ 8 = 15 := y8
                        have y9 : m m_ 9 = 21 := y9
                        first
                          | (exfalso; omega)
                          | exact hok _ _ _ (by rw [p_s0, ho, if_neg (by omega), if_pos (by rw [show p_fw true = 15 from rfl, show p_la true = 21 from rfl]; omega), if_neg (by omega), if_pos (by omega)])
                          | (rw [show i + 1 + 1 = i + 2 by omega]; exact hok _ _ _ (by rw [p_s0, ho, if_neg (by omega), if_pos (by rw [show p_fw true = 15 from rfl, show p_la true = 21 from rfl]; omega), if_neg (by omega), if_neg (by omega), if_pos ⟨rfl, by omega⟩, if_pos (by omega)]))
                          | exact hok _ _ _ (by rw [p_s0, ho, if_neg (by omega), if_pos (by rw [show p_fw true = 15 from rfl, show p_la true = 21 from rfl]; omega), if_neg (by omega), if_neg (by omega), if_neg (fun q => by have := q.2; omega)])
                      | false =>
                        rw [ho] at y10 y8 y9
                        have y10 : m m_ 10 = 0 := y10
                        have y8 : m m_ 8 = 8 := y8
                        have y9 : m m_ 9 = 15 := y9
                        first
                          | (exfalso; omega)
                          | exact hok _ _ _ (by rw [p_s0, ho, if_neg (by omega), if_pos (by rw [show p_fw false = 8 from rfl, show p_la false = 15 from rfl]; omega), if_neg (by omega), if_pos (by omega)])
                          | exact hok _ _ _ (by rw [p_s0, ho, if_neg (by omega), if_pos (by rw [show p_fw false = 8 from rfl, show p_la false = 15 from rfl]; omega), if_neg (by omega), if_neg (by omega), if_neg (fun q => by cases q.1)])
                    · show cw_C _ _ [vr m_, vi 0, vi 5] (y_m m (i + 1) (l + 1) (-1)) _
                      refine M_mustNumber1 hm0 hY (by omega) (by omega) (fun (a16 : c (i + 1) = 50) (a17 : 0 ≤ v (i + 1)) (a18 : v (i + 1) ≤ 5) => ⟨(y_m_ok hm0), ?_⟩) (fun (a16 : ¬ (c (i + 1) = 50 ∧ 0 ≤ v (i + 1) ∧ v (i + 1) ≤ 5)) (b19 : Int) (eb19 : b19 = pl (i + 1)) (nb19 : 0 ≤ b19) => ⟨(y_m_ok hm0), ?_⟩)
                      · show Q none (y_m m ((i + 1) + 1) (l + 1) (-1))
                        cases ho : o with
                        | true =>
                          rw [ho] at y10 y8 y9
                          have y10 : m m_ 10 = 1 := y10
                          have y8 : m m_ 8 = 15 := y8
                          have y9 : m m_ 9 = 21 := y9
                          first
                            | (exfalso; omega)
                            | exact hok _ _ _ (by rw [p_s0, ho, if_neg (by omega), if_pos (by rw [show p_fw true = 15 from rfl, show p_la true = 21 from rfl]; omega), if_neg (by omega), if_pos (by omega)])
                            | (rw [show i + 1 + 1 = i + 2 by omega]; exact hok _ _ _ (by rw [p_s0, ho, if_neg (by omega), if_pos (by rw [show p_fw true = 15 from rfl, show p_la true = 21 from rfl]; omega), if_neg (by omega), if_neg (by omega), if_pos ⟨rfl, by omega⟩, if_pos (by omega)]))
                            | exact hok _ _ _ (by rw [p_s0, ho, if_neg (by omega), if_pos (by rw [show p_fw true = 15 from rfl, show p_la true = 21 from rfl]; omega), if_neg (by omega), if_neg (by omega), if_neg (fun q => by have := q.2; omega)])
                        | false =>
                          rw [ho] at y10 y8 y9
                          have y10 : m m_ 10 = 0 := y10
                          have y8 : m m_ 8 = 8 := y8
                          have y9 : m m_ 9 = 15 := y9
                          first
                            | (exfalso; omega)
                            | exact hok _ _ _ (by rw [p_s0, ho, if_neg (by omega), if_pos (by rw [show p_fw false = 8 from rfl, show p_la false = 15 from rfl]; omega), if_neg (by omega), if_pos (by omega)])
                            | exact hok _ _ _ (by rw [p_s0, ho, if_neg (by omega), if_pos (by rw [show p_fw false = 8 from rfl, show p_la false = 15 from rfl]; omega), if_neg (by omega), if_neg (by omega), if_neg (fun q => by cases q.1)])
                      · show Q none (y_m m (i + 1) (l + 1) b19)
                        cases ho : o with
                        | true =>
                          rw [ho] at y10 y8 y9
                          have y10 : m m_ 10 = 1 := y10
                          have y8 : m m_ 8 = 15 := y8
                          have y9 : m m_ 9 = 21 := y9
                          first
                            | (exfalso; omega)
                            | exact her _ _ _ _ (by rw [p_s0, ho, if_pos (by omega), if_pos (by omega)]) eb19 nb19
                            | exact her _ _ _ _ (by rw [p_s0, ho, if_neg (by omega), if_pos (by rw [show p_fw true = 15 from rfl, show p_la true = 21 from rfl]; omega), if_pos (by omega)]) eb19 nb19
                            | exact her _ _ _ _ (by rw [p_s0, ho, if_neg (by omega), if_neg (by rw [show p_fw true = 15 from rfl, show p_la true = 21 from rfl]; omega)]) eb19 nb19
                            | exact her _ _ _ _ (by rw [p_s0, ho, if_neg (by omega), if_pos (by rw [show p_fw true = 15 from rfl, show p_la true = 21 from rfl]; omega), if_neg (by omega), if_neg (by omega), if_pos ⟨rfl, by omega⟩, if_neg (by have := hY.2.2.1 (i + 1) (by omega) (by omega); omega)]) eb19 nb19
                        | false =>
                          rw [ho] at y10 y8 y9
                          have y10 : m m_ 10 = 0 := y10
                          have y8 : m m_ 8 = 8 := y8
                          have y9 : m m_ 9 = 15 := y9
                          first
                            | (exfalso; omega)
                            | exact her _ _ _ _ (by rw [p_s0, ho, if_pos (by omega), if_pos (by omega)]) eb19 nb19
                            | exact her _ _ _ _ (by rw [p_s0, ho, if_neg (by omega), if_pos (by rw [show p_fw false = 8 from rfl, show p_la false = 15 from rfl]; omega), if_pos (by omega)]) eb19 nb19
                            | exact her _ _ _ _ (by rw [p_s0, ho, if_neg (by omega), if_neg (by rw [show p_fw false = 8 from rfl, show p_la false = 15 from rfl]; omega)]) eb19 nb19
              · refine And.intro (fun (c20 : m m_ 10 = 0) => ?_) (fun (c20 : ¬ (m m_ 10 = 0)) => ?_)
                · show Q none (y_m m i (l + 1) b8)
                  cases ho : o with
                  | true =>
                    rw [ho] at y10 y8 y9
                    have y10 : m m_ 10 = 1 := y10
                    have y8 : m m_ 8 = 15 := y8
                    have y9 : m m_ 9 = 21 := y9
                    first
                      | (exfalso; omega)
                      | exact her _ _ _ _ (by rw [p_s0, ho, if_pos (by omega), if_pos (by omega)]) eb8 nb8
                      | exact her _ _ _ _ (by rw [p_s0, ho, if_neg (by omega), if_pos (by rw [show p_fw true = 15 from rfl, show p_la true = 21 from rfl]; omega), if_pos (by omega)]) eb8 nb8
                      | exact her _ _ _ _ (by rw [p_s0, ho, if_neg (by omega), if_neg (by rw [show p_fw true = 15 from rfl, show p_la true = 21 from rfl]; omega)]) eb8 nb8
                      | exact her _ _ _ _ (by rw [p_s0, ho, if_neg (by omega), if_pos (by rw [show p_fw true = 15 from rfl, show p_la true = 21 from rfl]; omega), if_neg (by omega), if_neg (by omega), if_pos ⟨rfl, by omega⟩, if_neg (by have := hY.2.2.1 (i + 1) (by omega) (by omega); omega)]) eb8 nb8
                  | false =>
                    rw [ho] at y10 y8 y9
                    have y10 : m m_ 10 = 0 := y10
                    have y8 : m m_ 8 = 8 := y8
                    have y9 : m m_ 9 = 15 := y9
                    first
                      | (exfalso; omega)
                      | exact her _ _ _ _ (by rw [p_s0, ho, if_pos (by omega), if_pos (by omega)]) eb8 nb8
                      | exact her _ _ _ _ (by rw [p_s0, ho, if_neg (by omega), if_pos (by rw [show p_fw false = 8 from rfl, show p_la false = 15 from rfl]; omega), if_pos (by omega)]) eb8 nb8
                      | exact her _ _ _ _ (by rw [p_s0, ho, if_neg (by omega), if_neg (by rw [show p_fw false = 8 from rfl, show p_la false = 15 from rfl]; omega)]) eb8 nb8
                · refine And.intro (fun (c21 : m m_code_ i = 20) => ?_) (fun (c21 : ¬ (m m_code_ i = 20)) => ?_)
                  · show cw_C _ _ [vr m_, vi 0, vi 5] (y_m m i (l + 1) b8) _
                    refine M_mustNumber0 hm0 (by omega) ⟨(y_m_ok hm0), ?_⟩
                    show Q none (y_m m i (l + 1) b8)
                    cases ho : o with
                    | true =>
                      rw [ho] at y10 y8 y9
                      have y10 : m m_ 10 = 1 := y10
                      have y8 : m m_ 8 = 15 := y8
                      have y9 : m m_ 9 = 21 := y9
                      first
                        | (exfalso; omega)
                        | exact her _ _ _ _ (by rw [p_s0, ho, if_pos (by omega), if_pos (by omega)]) eb8 nb8
                        | exact her _ _ _ _ (by rw [p_s0, ho, if_neg (by omega), if_pos (by rw [show p_fw true = 15 from rfl, show p_la true = 21 from rfl]; omega), if_pos (by omega)]) eb8 nb8
                        | exact her _ _ _ _ (by rw [p_s0, ho, if_neg (by omega), if_neg (by rw [show p_fw true = 15 from rfl, show p_la true = 21 from rfl]; omega)]) eb8 nb8
                        | exact her _ _ _ _ (by rw [p_s0, ho, if_neg (by omega), if_pos (by rw [show p_fw true = 15 from rfl, show p_la true = 21 from rfl]; omega), if_neg (by omega), if_neg (by omega), if_pos ⟨rfl, by omega⟩, if_neg (by have := hY.2.2.1 (i + 1) (by omega) (by omega); omega)]) eb8 nb8
                    | false =>
                      rw [ho] at y10 y8 y9
                      have y10 : m m_ 10 = 0 := y10
                      have y8 : m m_ 8 = 8 := y8
                      have y9 : m m_ 9 = 15 := y9
                      first
                        | (exfalso; omega)
                        | exact her _ _ _ _ (by rw [p_s0, ho, if_pos (by omega), if_pos (by omega)]) eb8 nb8
                        | exact her _ _ _ _ (by rw [p_s0, ho, if_neg (by omega), if_pos (by rw [show p_fw false = 8 from rfl, show p_la false = 15 from rfl]; omega), if_pos (by omega)]) eb8 nb8
                        | exact her _ _ _ _ (by rw [p_s0, ho, if_neg (by omega), if_neg (by rw [show p_fw false = 8 from rfl, show p_la false = 15 from rfl]; omega)]) eb8 nb8
                  · refine And.intro (fun (c22 : m m_code_ i ≠ 21) => ?_) (fun (c22 : ¬ (m m_code_ i ≠ 21)) => ?_)
                    · show Q none (y_m m i (l + 1) b8)
                      cases ho : o with
                      | true =>
                        rw [ho] at y10 y8 y9
                        have y10 : m m_ 10 = 1 := y10
                        have y8 : m m_ 8 = 15 := y8
                        have y9 : m m_ 9 = 21 := y9
                        first
                          | (exfalso; omega)
                          | exact her _ _ _ _ (by rw [p_s0, ho, if_pos (by omega), if_pos (by omega)]) eb8 nb8
                          | exact her _ _ _ _ (by rw [p_s0, ho, if_neg (by omega), if_pos (by rw [show p_fw true = 15 from rfl, show p_la true = 21 from rfl]; omega), if_pos (by omega)]) eb8 nb8
                          | exact her _ _ _ _ (by rw [p_s0, ho, if_neg (by omega), if_neg (by rw [show p_fw true = 15 from rfl, show p_la true = 21 from rfl]; omega)]) eb8 nb8
                          | exact her _ _ _ _ (by rw [p_s0, ho, if_neg (by omega), if_pos (by rw [show p_fw true = 15 from rfl, show p_la true = 21 from rfl]; omega), if_neg (by omega), if_neg (by omega), if_pos ⟨rfl, by omega⟩, if_neg (by have := hY.2.2.1 (i + 1) (by omega) (by omega); omega)]) eb8 nb8
                      | false =>
                        rw [ho] at y10 y8 y9
                        have y10 : m m_ 10 = 0 := y10
                        have y8 : m m_ 8 = 8 := y8
                        have y9 : m m_ 9 = 15 := y9
                        first
                          | (exfalso; omega)
                          | exact her _ _ _ _ (by rw [p_s0, ho, if_pos (by omega), if_pos (by omega)]) eb8 nb8
                          | exact her _ _ _ _ (by rw [p_s0, ho, if_neg (by omega), if_pos (by rw [show p_fw false = 8 from rfl, show p_la false = 15 from rfl]; omega), if_pos (by omega)]) eb8 nb8
                          | exact her _ _ _ _ (by rw [p_s0, ho, if_neg (by omega), if_neg (by rw [show p_fw false = 8 from rfl, show p_la false = 15 from rfl]; omega)]) eb8 nb8
                    · show cw_C _ _ [vr m_, vi 0, vi 5] (y_m m i (l + 1) b8) _
                      refine M_mustNumber0 hm0 (by omega) ⟨(y_m_ok hm0), ?_⟩
                      show Q none (y_m m i (l + 1) b8)
                      cases ho : o with
                      | true =>
                        rw [ho] at y10 y8 y9
                        have y10 : m m_ 10 = 1 := y10
                        have y8 : m m_ 8 = 15 := y8
                        have y9 : m m_ 9 = 21 := y9
                        first
                          | (exfalso; omega)
                          | exact her _ _ _ _ (by rw [p_s0, ho, if_pos (by omega), if_pos (by omega)]) eb8 nb8
                          | exact her _ _ _ _ (by rw [p_s0, ho, if_neg (by omega), if_pos (by rw [show p_fw true = 15 from rfl, show p_la true = 21 from rfl]; omega), if_pos (by omega)]) eb8 nb8
                          | exact her _ _ _ _ (by rw [p_s0, ho, if_neg (by omega), if_neg (by rw [show p_fw true = 15 from rfl, show p_la true = 21 from rfl]; omega)]) eb8 nb8
                          | exact her _ _ _ _ (by rw [p_s0, ho, if_neg (by omega), if_pos (by rw [show p_fw true = 15 from rfl, show p_la true = 21 from rfl]; omega), if_neg (by omega), if_neg (by omega), if_pos ⟨rfl, by omega⟩, if_neg (by have := hY.2.2.1 (i + 1) (by omega) (by omega); omega)]) eb8 nb8
                      | false =>
                        rw [ho] at y10 y8 y9
                        have y10 : m m_ 10 = 0 := y10
                        have y8 : m m_ 8 = 8 := y8
                        have y9 : m m_ 9 = 15 := y9
                        first
                          | (exfalso; omega)
                          | exact her _ _ _ _ (by rw [p_s0, ho, if_pos (by omega), if_pos (by omega)]) eb8 nb8
                          | exact her _ _ _ _ (by rw [p_s0, ho, if_neg (by omega), if_pos (by rw [show p_fw false = 8 from rfl, show p_la false = 15 from rfl]; omega), if_pos (by omega)]) eb8 nb8
                          | exact her _ _ _ _ (by rw [p_s0, ho, if_neg (by omega), if_neg (by rw [show p_fw false = 8 from rfl, show p_la false = 15 from rfl]; omega)]) eb8 nb8
        · refine And.intro (show 0 ≤ i ∧ i < 401 by omega) ?_
          refine And.intro (fun (c23 : m m_value_ i ≤ 1000) => ?_) (fun (c23 : ¬ (m m_value_ i ≤ 1000)) => ?_)
          · show cw_C _ _ [vr m_] (y_m m i l (-1)) _
            refine M_leaf1 hm0 hY (by omega) (by omega) (by omega) (fun (a24 : l ≠ 50) => ⟨(y_m_ok hm0), ?_⟩) (fun (a24 : l = 50) (b25 : Int) (eb25 : b25 = pl i) (nb25 : 0 ≤ b25) => ⟨(y_m_ok hm0), ?_⟩)
            · refine And.intro (fun (c26 : m m_ 10 = 0) => ?_) (fun (c26 : ¬ (m m_ 10 = 0)) => ?_)
              · show Q none (y_m m (i + 1) (l + 1) (-1))
                cases ho : o with
                | true =>
                  rw [ho] at y10 y8 y9
                  have y10 : m m_ 10 = 1 := y10
                  have y8 : m m_ 8 = 15 := y8
                  have y9 : m m_ 9 = 21 := y9
                  first
                    | (exfalso; omega)
                    | exact hok _ _ _ (by rw [p_s0, ho, if_neg (by omega), if_pos (by rw [show p_fw true = 15 from rfl, show p_la true = 21 from rfl]; omega), if_neg (by omega), if_pos (by omega)])
                    | (rw [show i + 1 + 1 = i + 2 by omega]; exact hok _ _ _ (by rw [p_s0, ho, if_neg (by omega), if_pos (by rw [show p_fw true = 15 from rfl, show p_la true = 21 from rfl]; omega), if_neg (by omega), if_neg (by omega), if_pos ⟨rfl, by omega⟩, if_pos (by omega)]))
                    | exact hok _ _ _ (by rw [p_s0, ho, if_neg (by omega), if_pos (by rw [show p_fw true = 15 from rfl, show p_la true = 21 from rfl]; omega), if_neg (by omega), if_neg (by omega), if_neg (fun q => by have := q.2; omega)])
                | false =>
                  rw [ho] at y10 y8 y9
                  have y10 : m m_ 10 = 0 := y10
                  have y8 : m m_ 8 = 8 := y8
                  have y9 : m m_ 9 = 15 := y9
                  first
                    | (exfalso; omega)
                    | exact hok _ _ _ (by rw [p_s0, ho, if_neg (by omega), if_pos (by rw [show p_fw false = 8 from rfl, show p_la false = 15 from rfl]; omega), if_neg (by omega), if_pos (by omega)])
                    | exact hok _ _ _ (by rw [p_s0, ho, if_neg (by omega), if_pos (by rw [show p_fw false = 8 from rfl, show p_la false = 15 from rfl]; omega), if_neg (by omega), if_neg (by omega), if_neg (fun q => by cases q.1)])
              · refine And.intro (fun (c27 : m m_code_ i = 20) => ?_) (fun (c27 : ¬ (m m_code_ i = 20)) => ?_)
                · show cw_C _ _ [vr m_, vi 0, vi 5] (y_m m (i + 1) (l + 1) (-1)) _
                  refine M_mustNumber1 hm0 hY (by omega) (by omega) (fun (a28 : c (i + 1) = 50) (a29 : 0 ≤ v (i + 1)) (a30 : v (i + 1) ≤ 5) => ⟨(y_m_ok hm0), ?_⟩) (fun (a28 : ¬ (c (i + 1) = 50 ∧ 0 ≤ v (i + 1) ∧ v (i + 1) ≤ 5)) (b31 : Int) (eb31 : b31 = pl (i + 1)) (nb31 : 0 ≤ b31) => ⟨(y_m_ok hm0), ?_⟩)
                  · show Q none (y_m m ((i + 1) + 1) (l + 1) (-1))
                    cases ho : o with
                    | true =>
                      rw [ho] at y10 y8 y9
                      have y10 : m m_ 10 = 1 := y10
                      have y8 : m m_ 8 = 15 := y8
                      have y9 : m m_ 9 = 21 := y9
                      first
                        | (exfalso; omega)
                        | exact hok _ _ _ (by rw [p_s0, ho, if_neg (by omega), if_pos (by rw [show p_fw true = 15 from rfl, show p_la true = 21 from rfl]; omega), if_neg (by omega), if_pos (by omega)])
                        | (rw [show i + 1 + 1 = i + 2 by omega]; exact hok _ _ _ (by rw [p_s0, ho, if_neg (by omega), if_pos (by rw [show p_fw true = 15 from rfl, show p_la true = 21 from rfl]; omega), if_neg (by omega), if_neg (by omega), if_pos ⟨rfl, by omega⟩, if_pos (by omega)]))
                        | exact hok _ _ _ (by rw [p_s0, ho, if_neg (by omega), if_pos (by rw [show p_fw true = 15 from rfl, show p_la true = 21 from rfl]; omega), if_neg (by omega), if_neg (by omega), if_neg (fun q => by have := q.2; omega)])
                    | false =>
                      rw [ho] at y10 y8 y9
                      have y10 : m m_ 10 = 0 := y10
                      have y8 : m m_ 8 = 8 := y8
                      have y9 : m m_ 9 = 15 := y9
                      first
                        | (exfalso; omega)
                        | exact hok _ _ _ (by rw [p_s0, ho, if_neg (by omega), if_pos (by rw [show p_fw false = 8 from rfl, show p_la false = 15 from rfl]; omega), if_neg (by omega), if_pos (by omega)])
                        | exact hok _ _ _ (by rw [p_s0, ho, if_neg (by omega), if_pos (by rw [show p_fw false = 8 from rfl, show p_la false = 15 from rfl]; omega), if_neg (by omega), if_neg (by omega), if_neg (fun q => by cases q.1)])
                  · show Q none (y_m m (i + 1) (l + 1) b31)
                    cases ho : o with
                    | true =>
                      rw [ho] at y10 y8 y9
                      have y10 : m m_ 10 = 1 := y10
                      have y8 : m m_ 8 = 15 := y8
                      have y9 : m m_ 9 = 21 := y9
                      first
                        | (exfalso; omega)
                        | exact her _ _ _ _ (by rw [p_s0, ho, if_pos (by omega), if_pos (by omega)]) eb31 nb31
                        | exact her _ _ _ _ (by rw [p_s0, ho, if_neg (by omega), if_pos (by rw [show p_fw true = 15 from rfl, show p_la true = 21 from rfl]; omega), if_pos (by omega)]) eb31 nb31
                        | exact her _ _ _ _ (by rw [p_s0, ho, if_neg (by omega), if_neg (by rw [show p_fw true = 15 from rfl, show p_la true = 21 from rfl]; omega)]) eb31 nb31
                        | exact her _ _ _ _ (by rw [p_s0, ho, if_neg (by omega), if_pos (by rw [show p_fw true = 15 from rfl, show p_la true = 21 from rfl]; omega), if_neg (by omega), if_neg (by omega), if_pos ⟨rfl, by omega⟩, if_neg (by have := hY.2.2.1 (i + 1) (by omega) (by omega); omega)]) eb31 nb31
                    | false =>
                      rw [ho] at y10 y8 y9
                      have y10 : m m_ 10 = 0 := y10
                      have y8 : m m_ 8 = 8 := y8
                      have y9 : m m_ 9 = 15 := y9
                      first
                        | (exfalso; omega)
                        | exact her _ _ _ _ (by rw [p_s0, ho, if_pos (by omega), if_pos (by omega)]) eb31 nb31
                        | exact her _ _ _ _ (by rw [p_s0, ho, if_neg (by omega), if_pos (by rw [show p_fw false = 8 from rfl, show p_la false = 15 from rfl]; omega), if_pos (by omega)]) eb31 nb31
                        | exact her _ _ _ _ (by rw [p_s0, ho, if_neg (by omega), if_neg (by rw [show p_fw false = 8 from rfl, show p_la false = 15 from rfl]; omega)]) eb31 nb31
                · refine And.intro (fun (c32 : m m_code_ i ≠ 21) => ?_) (fun (c32 : ¬ (m m_code_ i ≠ 21)) => ?_)
                  · show Q none (y_m m (i + 1) (l + 1) (-1))
                    cases ho : o with
                    | true =>
                      rw [ho] at y10 y8 y9
                      have y10 : m m_ 10 = 1 := y10
                      have y8 : m m_ 8 = 15 := y8
                      have y9 : m m_ 9 = 21 := y9
                      first
                        | (exfalso; omega)
                        | exact hok _ _ _ (by rw [p_s0, ho, if_neg (by omega), if_pos (by rw [show p_fw true = 15 from rfl, show p_la true = 21 from rfl]; omega), if_neg (by omega), if_pos (by omega)])
                        | (rw [show i + 1 + 1 = i + 2 by omega]; exact hok _ _ _ (by rw [p_s0, ho, if_neg (by omega), if_pos (by rw [show p_fw true = 15 from rfl, show p_la true = 21 from rfl]; omega), if_neg (by omega), if_neg (by omega), if_pos ⟨rfl, by omega⟩, if_pos (by omega)]))
                        | exact hok _ _ _ (by rw [p_s0, ho, if_neg (by omega), if_pos (by rw [show p_fw true = 15 from rfl, show p_la true = 21 from rfl]; omega), if_neg (by omega), if_neg (by omega), if_neg (fun q => by have := q.2; omega)])
                    | false =>
                      rw [ho] at y10 y8 y9
                      have y10 : m m_ 10 = 0 := y10
                      have y8 : m m_ 8 = 8 := y8
                      have y9 : m m_ 9 = 15 := y9
                      first
                        | (exfalso; omega)
                        | exact hok _ _ _ (by rw [p_s0, ho, if_neg (by omega), if_pos (by rw [show p_fw false = 8 from rfl, show p_la false = 15 from rfl]; omega), if_neg (by omega), if_pos (by omega)])
                        | exact hok _ _ _ (by rw [p_s0, ho, if_neg (by omega), if_pos (by rw [show p_fw false = 8 from rfl, show p_la false = 15 from rfl]; omega), if_neg (by omega), if_neg (by omega), if_neg (fun q => by cases q.1)])
                  · show cw_C _ _ [vr m_, vi 0, vi 5] (y_m m (i + 1) (l + 1) (-1)) _
                    refine M_mustNumber1 hm0 hY (by omega) (by omega) (fun (a33 : c (i + 1) = 50) (a34 : 0 ≤ v (i + 1)) (a35 : v (i + 1) ≤ 5) => ⟨(y_m_ok hm0), ?_⟩) (fun (a33 : ¬ (c (i + 1) = 50 ∧ 0 ≤ v (i + 1) ∧ v (i + 1) ≤ 5)) (b36 : Int) (eb36 : b36 = pl (i + 1)) (nb36 : 0 ≤ b36) => ⟨(y_m_ok hm0), ?_⟩)
                    · show Q none (y_m m ((i + 1) + 1) (l + 1) (-1))
                      cases ho : o with
                      | true =>
                        rw [ho] at y10 y8 y9
                        have y10 : m m_ 10 = 1 := y10
                        have y8 : m m_ 8 = 15 := y8
                        have y9 : m m_ 9 = 21 := y9
                        first
                          | (exfalso; omega)
                          | exact hok _ _ _ (by rw [p_s0, ho, if_neg (by omega), if_pos (by rw [show p_fw true = 15 from rfl, show p_la true = 21 from rfl]; omega), if_neg (by omega), if_pos (by omega)])
                          | (rw [show i + 1 + 1 = i + 2 by omega]; exact hok _ _ _ (by rw [p_s0, ho, if_neg (by omega), if_pos (by rw [show p_fw true = 15 from rfl, show p_la true = 21 from rfl]; omega), if_neg (by omega), if_neg (by omega), if_pos ⟨rfl, by omega⟩, if_pos (by omega)]))
                          | exact hok _ _ _ (by rw [p_s0, ho, if_neg (by omega), if_pos (by rw [show p_fw true = 15 from rfl, show p_la true = 21 from rfl]; omega), if_neg (by omega), if_neg (by omega), if_neg (fun q => by have := q.2; omega)])
                      | false =>
                        rw [ho] at y10 y8 y9
                        have y10 : m m_ 10 = 0 := y10
                        have y8 : m m_ 8 = 8 := y8
                        have y9 : m m_ 9 = 15 := y9
                        first
                          | (exfalso; omega)
                          | exact hok _ _ _ (by rw [p_s0, ho, if_neg (by omega), if_pos (by rw [show p_fw false = 8 from rfl, show p_la false = 15 from rfl]; omega), if_neg (by omega), if_pos (by omega)])
                          | exact hok _ _ _ (by rw [p_s0, ho, if_neg (by omega), if_pos (by rw [show p_fw false = 8 from rfl, show p_la false = 15 from rfl]; omega), if_neg (by omega), if_neg (by omega), if_neg (fun q => by cases q.1)])
                    · show Q none (y_m m (i + 1) (l + 1) b36)
                      cases ho : o with
                      | true =>
                        rw [ho] at y10 y8 y9
                        have y10 : m m_ 10 = 1 := y10
                        have y8 : m m_ 8 = 15 := y8
                        have y9 : m m_ 9 = 21 := y9
                        first
                          | (exfalso; omega)
                          | exact her _ _ _ _ (by rw [p_s0, ho, if_pos (by omega), if_pos (by omega)]) eb36 nb36
                          | exact her _ _ _ _ (by rw [p_s0, ho, if_neg (by omega), if_pos (by rw [show p_fw true = 15 from rfl, show p_la true = 21 from rfl]; omega), if_pos (by omega)]) eb36 nb36
                          | exact her _ _ _ _ (by rw [p_s0, ho, if_neg (by omega), if_neg (by rw [show p_fw true = 15 from rfl, show p_la true = 21 from rfl]; omega)]) eb36 nb36
                          | exact her _ _ _ _ (by rw [p_s0, ho, if_neg (by omega), if_pos (by rw [show p_fw true = 15 from rfl, show p_la true = 21 from rfl]; omega), if_neg (by omega), if_neg (by omega), if_pos ⟨rfl, by omega⟩, if_neg (by have := hY.2.2.1 (i + 1) (by omega) (by omega); omega)]) eb36 nb36
                      | false =>
                        rw [ho] at y10 y8 y9
                        have y10 : m m_ 10 = 0 := y10
                        have y8 : m m_ 8 = 8 := y8
                        have y9 : m m_ 9 = 15 := y9
                        first
                          | (exfalso; omega)
                          | exact her _ _ _ _ (by rw [p_s0, ho, if_pos (by omega), if_pos (by omega)]) eb36 nb36
                          | exact her _ _ _ _ (by rw [p_s0, ho, if_neg (by omega), if_pos (by rw [show p_fw false = 8 from rfl, show p_la false = 15 from rfl]; omega), if_pos (by omega)]) eb36 nb36
                          | exact her _ _ _ _ (by rw [p_s0, ho, if_neg (by omega), if_neg (by rw [show p_fw false = 8 from rfl, show p_la false = 15 from rfl]; omega)]) eb36 nb36
            · refine And.intro (fun (c37 : m m_ 10 = 0) => ?_) (fun (c37 : ¬ (m m_ 10 = 0)) => ?_)
              · show Q none (y_m m i (l + 1) b25)
                cases ho : o with
                | true =>
                  rw [ho] at y10 y8 y9
                  have y10 : m m_ 10 = 1 := y10
                  have y8 : m m_ 8 = 15 := y8
                  have y9 : m m_ 9 = 21 := y9
                  first
                    | (exfalso; omega)
                    | exact her _ _ _ _ (by rw [p_s0, ho, if_pos (by omega), if_pos (by omega)]) eb25 nb25
                    | exact her _ _ _ _ (by rw [p_s0, ho, if_neg (by omega), if_pos (by rw [show p_fw true = 15 from rfl, show p_la true = 21 from rfl]; omega), if_pos (by omega)]) eb25 nb25
                    | exact her _ _ _ _ (by rw [p_s0, ho, if_neg (by omega), if_neg (by rw [show p_fw true = 15 from rfl, show p_la true = 21 from rfl]; omega)]) eb25 nb25
                    | exact her _ _ _ _ (by rw [p_s0, ho, if_neg (by omega), if_pos (by rw [show p_fw true = 15 from rfl, show p_la true = 21 from rfl]; omega), if_neg (by omega), if_neg (by omega), if_pos ⟨rfl, by omega⟩, if_neg (by have := hY.2.2.1 (i + 1) (by omega) (by omega); omega)]) eb25 nb25
                | false =>
                  rw [ho] at y10 y8 y9
                  have y10 : m m_ 10 = 0 := y10
                  have y8 : m m_ 8 = 8 := y8
                  have y9 : m m_ 9 = 15 := y9
                  first
                    | (exfalso; omega)
                    | exact her _ _ _ _ (by rw [p_s0, ho, if_pos (by omega), if_pos (by omega)]) eb25 nb25
                    | exact her _ _ _ _ (by rw [p_s0, ho, if_neg (by omega), if_pos (by rw [show p_fw false = 8 from rfl, show p_la false = 15 from rfl]; omega), if_pos (by omega)]) eb25 nb25
                    | exact her _ _ _ _ (by rw [p_s0, ho, if_neg (by omega), if_neg (by rw [show p_fw false = 8 from rfl, show p_la false = 15 from rfl]; omega)]) eb25 nb25
              · refine And.intro (fun (c38 : m m_code_ i = 20) => ?_) (fun (c38 : ¬ (m m_code_ i = 20)) => ?_)
                · show cw_C _ _ [vr m_, vi 0, vi 5] (y_m m i (l + 1) b25) _
                  refine M_mustNumber0 hm0 (by omega) ⟨(y_m_ok hm0), ?_⟩
                  show Q none (y_m m i (l + 1) b25)
                  cases ho : o with
                  | true =>
                    rw [ho] at y10 y8 y9
                    have y10 : m m_ 10 = 1 := y10
                    have y8 : m m_ 8 = 15 := y8
                    have y9 : m m_ 9 = 21 := y9
                    first
                      | (exfalso; omega)
                      | exact her _ _ _ _ (by rw [p_s0, ho, if_pos (by omega), if_pos (by omega)]) eb25 nb25
                      | exact her _ _ _ _ (by rw [p_s0, ho, if_neg (by omega), if_pos (by rw [show p_fw true = 15 from rfl, show p_la true = 21 from rfl]; omega), if_pos (by omega)]) eb25 nb25
                      | exact her _ _ _ _ (by rw [p_s0, ho, if_neg (by omega), if_neg (by rw [show p_fw true = 15 from rfl, show p_la true = 21 from rfl]; omega)]) eb25 nb25
                      | exact her _ _ _ _ (by rw [p_s0, ho, if_neg (by omega), if_pos (by rw [show p_fw true = 15 from rfl, show p_la true = 21 from rfl]; omega), if_neg (by omega), if_neg (by omega), if_pos ⟨rfl, by omega⟩, if_neg (by have := hY.2.2.1 (i + 1) (by omega) (by omega); omega)]) eb25 nb25
                  | false =>
                    rw [ho] at y10 y8 y9
                    have y10 : m m_ 10 = 0 := y10
                    have y8 : m m_ 8 = 8 := y8
                    have y9 : m m_ 9 = 15 := y9
                    first
                      | (exfalso; omega)
                      | exact her _ _ _ _ (by rw [p_s0, ho, if_pos (by omega), if_pos (by omega)]) eb25 nb25
                      | exact her _ _ _ _ (by rw [p_s0, ho, if_neg (by omega), if_pos (by rw [show p_fw false = 8 from rfl, show p_la false = 15 from rfl]; omega), if_pos (by omega)]) eb25 nb25
                      | exact her _ _ _ _ (by rw [p_s0, ho, if_neg (by omega), if_neg (by rw [show p_fw false = 8 from rfl, show p_la false = 15 from rfl]; omega)]) eb25 nb25
                · refine And.intro (fun (c39 : m m_code_ i ≠ 21) => ?_) (fun (c39 : ¬ (m m_code_ i ≠ 21)) => ?_)
                  · show Q none (y_m m i (l + 1) b25)
                    cases ho : o with
                    | true =>
                      rw [ho] at y10 y8 y9
                      have y10 : m m_ 10 = 1 := y10
                      have y8 : m m_ 8 = 15 := y8
                      have y9 : m m_ 9 = 21 := y9
                      first
                        | (exfalso; omega)
                        | exact her _ _ _ _ (by rw [p_s0, ho, if_pos (by omega), if_pos (by omega)]) eb25 nb25
                        | exact her _ _ _ _ (by rw [p_s0, ho, if_neg (by omega), if_pos (by rw [show p_fw true = 15 from rfl, show p_la true = 21 from rfl]; omega), if_pos (by omega)]) eb25 nb25
                        | exact her _ _ _ _ (by rw [p_s0, ho, if_neg (by omega), if_neg (by rw [show p_fw true = 15 from rfl, show p_la true = 21 from rfl]; omega)]) eb25 nb25
                        | exact her _ _ _ _ (by rw [p_s0, ho, if_neg (by omega), if_pos (by rw [show p_fw true = 15 from rfl, show p_la true = 21 from rfl]; omega), if_neg (by omega), if_neg (by omega), if_pos ⟨rfl, by omega⟩, if_neg (by have := hY.2.2.1 (i + 1) (by omega) (by omega); omega)]) eb25 nb25
                    | false =>
                      rw [ho] at y10 y8 y9
                      have y10 : m m_ 10 = 0 := y10
                      have y8 : m m_ 8 = 8 := y8
                      have y9 : m m_ 9 = 15 := y9
                      first
                        | (exfalso; omega)
                        | exact her _ _ _ _ (by rw [p_s0, ho, if_pos (by omega), if_pos (by omega)]) eb25 nb25
                        | exact her _ _ _ _ (by rw [p_s0, ho, if_neg (by omega), if_pos (by rw [show p_fw false = 8 from rfl, show p_la false = 15 from rfl]; omega), if_pos (by omega)]) eb25 nb25
                        | exact her _ _ _ _ (by rw [p_s0, ho, if_neg (by omega), if_neg (by rw [show p_fw false = 8 from rfl, show p_la false = 15 from rfl]; omega)]) eb25 nb25
                  · show cw_C _ _ [vr m_, vi 0, vi 5] (y_m m i (l + 1) b25) _
                    refine M_mustNumber0 hm0 (by omega) ⟨(y_m_ok hm0), ?_⟩
                    show Q none (y_m m i (l + 1) b25)
                    cases ho : o with
                    | true =>
                      rw [ho] at y10 y8 y9
                      have y10 : m m_ 10 = 1 := y10
                      have y8 : m m_ 8 = 15 := y8
                      have y9 : m m_ 9 = 21 := y9
                      first
                        | (exfalso; omega)
                        | exact her _ _ _ _ (by rw [p_s0, ho, if_pos (by omega), if_pos (by omega)]) eb25 nb25
                        | exact her _ _ _ _ (by rw [p_s0, ho, if_neg (by omega), if_pos (by rw [show p_fw true = 15 from rfl, show p_la true = 21 from rfl]; omega), if_pos (by omega)]) eb25 nb25
                        | exact her _ _ _ _ (by rw [p_s0, ho, if_neg (by omega), if_neg (by rw [show p_fw true = 15 from rfl, show p_la true = 21 from rfl]; omega)]) eb25 nb25
                        | exact her _ _ _ _ (by rw [p_s0, ho, if_neg (by omega), if_pos (by rw [show p_fw true = 15 from rfl, show p_la true = 21 from rfl]; omega), if_neg (by omega), if_neg (by omega), if_pos ⟨rfl, by omega⟩, if_neg (by have := hY.2.2.1 (i + 1) (by omega) (by omega); omega)]) eb25 nb25
                    | false =>
                      rw [ho] at y10 y8 y9
                      have y10 : m m_ 10 = 0 := y10
                      have y8 : m m_ 8 = 8 := y8
                      have y9 : m m_ 9 = 15 := y9
                      first
                        | (exfalso; omega)
                        | exact her _ _ _ _ (by rw [p_s0, ho, if_pos (by omega), if_pos (by omega)]) eb25 nb25
                        | exact her _ _ _ _ (by rw [p_s0, ho, if_neg (by omega), if_pos (by rw [show p_fw false = 8 from rfl, show p_la false = 15 from rfl]; omega), if_pos (by omega)]) eb25 nb25
                        | exact her _ _ _ _ (by rw [p_s0, ho, if_neg (by omega), if_neg (by rw [show p_fw false = 8 from rfl, show p_la false = 15 from rfl]; omega)]) eb25 nb25
          · refine And.intro (fun (c40 : m m_code_ i < m m_ 8) => ?_) (fun (c40 : ¬ (m m_code_ i < m m_ 8)) => ?_)
            · show cw_C _ _ [vr m_] (y_m m i l (-1)) _
              refine M_faults1 hm0 hY (by omega) (by omega) (fun (b41 : Int) (eb41 : b41 = pl i) (nb41 : 0 ≤ b41) => ⟨(y_m_ok hm0), ?_⟩)
              show Q none (y_m m i l b41)
              cases ho : o with
              | true =>
                rw [ho] at y10 y8 y9
                have y10 : m m_ 10 = 1 := y10
                have y8 : m m_ 8 = 15 := y8
                have y9 : m m_ 9 = 21 := y9
                first
                  | (exfalso; omega)
                  | exact her _ _ _ _ (by rw [p_s0, ho, if_pos (by omega), if_pos (by omega)]) eb41 nb41
                  | exact her _ _ _ _ (by rw [p_s0, ho, if_neg (by omega), if_pos (by rw [show p_fw true = 15 from rfl, show p_la true = 21 from rfl]; omega), if_pos (by omega)]) eb41 nb41
                  | exact her _ _ _ _ (by rw [p_s0, ho, if_neg (by omega), if_neg (by rw [show p_fw true = 15 from rfl, show p_la true = 21 from rfl]; omega)]) eb41 nb41
                  | exact her _ _ _ _ (by rw [p_s0, ho, if_neg (by omega), if_pos (by rw [show p_fw true = 15 from rfl, show p_la true = 21 from rfl]; omega), if_neg (by omega), if_neg (by omega), if_pos ⟨rfl, by omega⟩, if_neg (by have := hY.2.2.1 (i + 1) (by omega) (by omega); omega)]) eb41 nb41
              | false =>
                rw [ho] at y10 y8 y9
                have y10 : m m_ 10 = 0 := y10
                have y8 : m m_ 8 = 8 := y8
                have y9 : m m_ 9 = 15 := y9
                first
                  | (exfalso; omega)
                  | exact her _ _ _ _ (by rw [p_s0, ho, if_pos (by omega), if_pos (by omega)]) eb41 nb41
                  | exact her _ _ _ _ (by rw [p_s0, ho, if_neg (by omega), if_pos (by rw [show p_fw false = 8 from rfl, show p_la false = 15 from rfl]; omega), if_pos (by omega)]) eb41 nb41
                  | exact her _ _ _ _ (by rw [p_s0, ho, if_neg (by omega), if_neg (by rw [show p_fw false = 8 from rfl, show p_la false = 15 from rfl]; omega)]) eb41 nb41
            · refine And.intro (fun (c42 : m m_ 9 < m m_code_ i) => ?_) (fun (c42 : ¬ (m m_ 9 < m m_code_ i)) => ?_)
              · show cw_C _ _ [vr m_] (y_m m i l (-1)) _
                refine M_faults1 hm0 hY (by omega) (by omega) (fun (b43 : Int) (eb43 : b43 = pl i) (nb43 : 0 ≤ b43) => ⟨(y_m_ok hm0), ?_⟩)
                show Q none (y_m m i l b43)
                cases ho : o with
                | true =>
                  rw [ho] at y10 y8 y9
                  have y10 : m m_ 10 = 1 := y10
                  have y8 : m m_ 8 = 15 := y8
                  have y9 : m m_ 9 = 21 := y9
                  first
                    | (exfalso; omega)
                    | exact her _ _ _ _ (by rw [p_s0, ho, if_pos (by omega), if_pos (by omega)]) eb43 nb43
                    | exact her _ _ _ _ (by rw [p_s0, ho, if_neg (by omega), if_pos (by rw [show p_fw true = 15 from rfl, show p_la true = 21 from rfl]; omega), if_pos (by omega)]) eb43 nb43
                    | exact her _ _ _ _ (by rw [p_s0, ho, if_neg (by omega), if_neg (by rw [show p_fw true = 15 from rfl, show p_la true = 21 from rfl]; omega)]) eb43 nb43
                    | exact her _ _ _ _ (by rw [p_s0, ho, if_neg (by omega), if_pos (by rw [show p_fw true = 15 from rfl, show p_la true = 21 from rfl]; omega), if_neg (by omega), if_neg (by omega), if_pos ⟨rfl, by omega⟩, if_neg (by have := hY.2.2.1 (i + 1) (by omega) (by omega); omega)]) eb43 nb43
                | false =>
                  rw [ho] at y10 y8 y9
                  have y10 : m m_ 10 = 0 := y10
                  have y8 : m m_ 8 = 8 := y8
                  have y9 : m m_ 9 = 15 := y9
                  first
                    | (exfalso; omega)
                    | exact her _ _ _ _ (by rw [p_s0, ho, if_pos (by omega), if_pos (by omega)]) eb43 nb43
                    | exact her _ _ _ _ (by rw [p_s0, ho, if_neg (by omega), if_pos (by rw [show p_fw false = 8 from rfl, show p_la false = 15 from rfl]; omega), if_pos (by omega)]) eb43 nb43
                    | exact her _ _ _ _ (by rw [p_s0, ho, if_neg (by omega), if_neg (by rw [show p_fw false = 8 from rfl, show p_la false = 15 from rfl]; omega)]) eb43 nb43
              · show cw_C _ _ [vr m_] (y_m m i l (-1)) _
                refine M_leaf1 hm0 hY (by omega) (by omega) (by omega) (fun (a44 : l ≠ 50) => ⟨(y_m_ok hm0), ?_⟩) (fun (a44 : l = 50) (b45 : Int) (eb45 : b45 = pl i) (nb45 : 0 ≤ b45) => ⟨(y_m_ok hm0), ?_⟩)
                · refine And.intro (fun (c46 : m m_ 10 = 0) => ?_) (fun (c46 : ¬ (m m_ 10 = 0)) => ?_)
                  · show Q none (y_m m (i + 1) (l + 1) (-1))
                    cases ho : o with
                    | true =>
                      rw [ho] at y10 y8 y9
                      have y10 : m m_ 10 = 1 := y10
                      have y8 : m m_ 8 = 15 := y8
                      have y9 : m m_ 9 = 21 := y9
                      first
                        | (exfalso; omega)
                        | exact hok _ _ _ (by rw [p_s0, ho, if_neg (by omega), if_pos (by rw [show p_fw true = 15 from rfl, show p_la true = 21 from rfl]; omega), if_neg (by omega), if_pos (by omega)])
                        | (rw [show i + 1 + 1 = i + 2 by omega]; exact hok _ _ _ (by rw [p_s0, ho, if_neg (by omega), if_pos (by rw [show p_fw true = 15 from rfl, show p_la true = 21 from rfl]; omega), if_neg (by omega), if_neg (by omega), if_pos ⟨rfl, by omega⟩, if_pos (by omega)]))
                        | exact hok _ _ _ (by rw [p_s0, ho, if_neg (by omega), if_pos (by rw [show p_fw true = 15 from rfl, show p_la true = 21 from rfl]; omega), if_neg (by omega), if_neg (by omega), if_neg (fun q => by have := q.2; omega)])
                    | false =>
                      rw [ho] at y10 y8 y9
                      have y10 : m m_ 10 = 0 := y10
                      have y8 : m m_ 8 = 8 := y8
                      have y9 : m m_ 9 = 15 := y9
                      first
                        | (exfalso; omega)
                        | exact hok _ _ _ (by rw [p_s0, ho, if_neg (by omega), if_pos (by rw [show p_fw false = 8 from rfl, show p_la false = 15 from rfl]; omega), if_neg (by omega), if_pos (by omega)])
                        | exact hok _ _ _ (by rw [p_s0, ho, if_neg (by omega), if_pos (by rw [show p_fw false = 8 from rfl, show p_la false = 15 from rfl]; omega), if_neg (by omega), if_neg (by omega), if_neg (fun q => by cases q.1)])
                  · refine And.intro (fun (c47 : m m_code_ i = 20) => ?_) (fun (c47 : ¬ (m m_code_ i = 20)) => ?_)
                    · show cw_C _ _ [vr m_, vi 0, vi 5] (y_m m (i + 1) (l + 1) (-1)) _
                      refine M_mustNumber1 hm0 hY (by omega) (by omega) (fun (a48 : c (i + 1) = 50) (a49 : 0 ≤ v (i + 1)) (a50 : v (i + 1) ≤ 5) => ⟨(y_m_ok hm0), ?_⟩) (fun (a48 : ¬ (c (i + 1) = 50 ∧ 0 ≤ v (i + 1) ∧ v (i + 1) ≤ 5)) (b51 : Int) (eb51 : b51 = pl (i + 1)) (nb51 : 0 ≤ b51) => ⟨(y_m_ok hm0), ?_⟩)
                      · show Q none (y_m m ((i + 1) + 1) (l + 1) (-1))
                        cases ho : o with
                        | true =>
                          rw [ho] at y10 y8 y9
                          have y10 : m m_ 10 = 1 := y10
                          have y8 : m m_ 8 = 15 := y8
                          have y9 : m m_ 9 = 21 := y9
                          first
                            | (exfalso; omega)
                            | exact hok _ _ _ (by rw [p_s0, ho, if_neg (by omega), if_pos (by rw [show p_fw true = 15 from rfl, show p_la true = 21 from rfl]; omega), if_neg (by omega), if_pos (by omega)])
                            | (rw [show i + 1 + 1 = i + 2 by omega]; exact hok _ _ _ (by rw [p_s0, ho, if_neg (by omega), if_pos (by rw [show p_fw true = 15 from rfl, show p_la true = 21 from rfl]; omega), if_neg (by omega), if_neg (by omega), if_pos ⟨rfl, by omega⟩, if_pos (by omega)]))
                            | exact hok _ _ _ (by rw [p_s0, ho, if_neg (by omega), if_pos (by rw [show p_fw true = 15 from rfl, show p_la true = 21 from rfl]; omega), if_neg (by omega), if_neg (by omega), if_neg (fun q => by have := q.2; omega)])
                        | false =>
                          rw [ho] at y10 y8 y9
                          have y10 : m m_ 10 = 0 := y10
                          have y8 : m m_ 8 = 8 := y8
                          have y9 : m m_ 9 = 15 := y9
                          first
                            | (exfalso; omega)
                            | exact hok _ _ _ (by rw [p_s0, ho, if_neg (by omega), if_pos (by rw [show p_fw false = 8 from rfl, show p_la false = 15 from rfl]; omega), if_neg (by omega), if_pos (by omega)])
                            | exact hok _ _ _ (by rw [p_s0, ho, if_neg (by omega), if_pos (by rw [show p_fw false = 8 from rfl, show p_la false = 15 from rfl]; omega), if_neg (by omega), if_neg (by omega), if_neg (fun q => by cases q.1)])
                      · show Q none (y_m m (i + 1) (l + 1) b51)
                        cases ho : o with
                        | true =>
                          rw [ho] at y10 y8 y9
                          have y10 : m m_ 10 = 1 := y10
                          have y8 : m m_ 8 = 15 := y8
                          have y9 : m m_ 9 = 21 := y9
                          first
                            | (exfalso; omega)
                            | exact her _ _ _ _ (by rw [p_s0, ho, if_pos (by omega), if_pos (by omega)]) eb51 nb51
                            | exact her _ _ _ _ (by rw [p_s0, ho, if_neg (by omega), if_pos (by rw [show p_fw true = 15 from rfl, show p_la true = 21 from rfl]; omega), if_pos (by omega)]) eb51 nb51
                            | exact her _ _ _ _ (by rw [p_s0, ho, if_neg (by omega), if_neg (by rw [show p_fw true = 15 from rfl, show p_la true = 21 from rfl]; omega)]) eb51 nb51
                            | exact her _ _ _ _ (by rw [p_s0, ho, if_neg (by omega), if_pos (by rw [show p_fw true = 15 from rfl, show p_la true = 21 from rfl]; omega), if_neg (by omega), if_neg (by omega), if_pos ⟨rfl, by omega⟩, if_neg (by have := hY.2.2.1 (i + 1) (by omega) (by omega); omega)]) eb51 nb51
                        | false =>
                          rw [ho] at y10 y8 y9
                          have y10 : m m_ 10 = 0 := y10
                          have y8 : m m_ 8 = 8 := y8
                          have y9 : m m_ 9 = 15 := y9
                          first
                            | (exfalso; omega)
                            | exact her _ _ _ _ (by rw [p_s0, ho, if_pos (by omega), if_pos (by omega)]) eb51 nb51
                            | exact her _ _ _ _ (by rw [p_s0, ho, if_neg (by omega), if_pos (by rw [show p_fw false = 8 from rfl, show p_la false = 15 from rfl]; omega), if_pos (by omega)]) eb51 nb51
                            | exact her _ _ _ _ (by rw [p_s0, ho, if_neg (by omega), if_neg (by rw [show p_fw false = 8 from rfl, show p_la false = 15 from rfl]; omega)]) eb51 nb51
                    · refine And.intro (fun (c52 : m m_code_ i ≠ 21) => ?_) (fun (c52 : ¬ (m m_code_ i ≠ 21)) => ?_)
                      · show Q none (y_m m (i + 1) (l + 1) (-1))
                        cases ho : o with
                        | true =>
                          rw [ho] at y10 y8 y9
                          have y10 : m m_ 10 = 1 := y10
                          have y8 : m m_ 8 = 15 := y8
                          have y9 : m m_ 9 = 21 := y9
                          first
                            | (exfalso; omega)
                            | exact hok _ _ _ (by rw [p_s0, ho, if_neg (by omega), if_pos (by rw [show p_fw true = 15 from rfl, show p_la true = 21 from rfl]; omega), if_neg (by omega), if_pos (by omega)])
                            | (rw [show i + 1 + 1 = i + 2 by omega]; exact hok _ _ _ (by rw [p_s0, ho, if_neg (by omega), if_pos (by rw [show p_fw true = 15 from rfl, show p_la true = 21 from rfl]; omega), if_neg (by omega), if_neg (by omega), if_pos ⟨rfl, by omega⟩, if_pos (by omega)]))
                            | exact hok _ _ _ (by rw [p_s0, ho, if_neg (by omega), if_pos (by rw [show p_fw true = 15 from rfl, show p_la true = 21 from rfl]; omega), if_neg (by omega), if_neg (by omega), if_neg (fun q => by have := q.2; omega)])
                        | false =>
                          rw [ho] at y10 y8 y9
                          have y10 : m m_ 10 = 0 := y10
                          have y8 : m m_ 8 = 8 := y8
                          have y9 : m m_ 9 = 15 := y9
                          first
                            | (exfalso; omega)
                            | exact hok _ _ _ (by rw [p_s0, ho, if_neg (by omega), if_pos (by rw [show p_fw false = 8 from rfl, show p_la false = 15 from rfl]; omega), if_neg (by omega), if_pos (by omega)])
                            | exact hok _ _ _ (by rw [p_s0, ho, if_neg (by omega), if_pos (by rw [show p_fw false = 8 from rfl, show p_la false = 15 from rfl]; omega), if_neg (by omega), if_neg (by omega), if_neg (fun q => by cases q.1)])
                      · show cw_C _ _ [vr m_, vi 0, vi 5] (y_m m (i + 1) (l + 1) (-1)) _
                        refine M_mustNumber1 hm0 hY (by omega) (by omega) (fun (a53 : c (i + 1) = 50) (a54 : 0 ≤ v (i + 1)) (a55 : v (i + 1) ≤ 5) => ⟨(y_m_ok hm0), ?_⟩) (fun (a53 : ¬ (c (i + 1) = 50 ∧ 0 ≤ v (i + 1) ∧ v (i + 1) ≤ 5)) (b56 : Int) (eb56 : b56 = pl (i + 1)) (nb56 : 0 ≤ b56) => ⟨(y_m_ok hm0), ?_⟩)
                        · show Q none (y_m m ((i + 1) + 1) (l + 1) (-1))
                          cases ho : o with
                          | true =>
                            rw [ho] at y10 y8 y9
                            have y10 : m m_ 10 = 1 := y10
                            have y8 : m m_ 8 = 15 := y8
                            have y9 : m m_ 9 = 21 := y9
                            first
                              | (exfalso; omega)
                              | exact hok _ _ _ (by rw [p_s0, ho, if_neg (by omega), if_pos (by rw [show p_fw true = 15 from rfl, show p_la true = 21 from rfl]; omega), if_neg (by omega), if_pos (by omega)])
                              | (rw [show i + 1 + 1 = i + 2 by omega]; exact hok _ _ _ (by rw [p_s0, ho, if_neg (by omega), if_pos (by rw [show p_fw true = 15 from rfl, show p_la true = 21 from rfl]; omega), if_neg (by omega), if_neg (by omega), if_pos ⟨rfl, by omega⟩, if_pos (by omega)]))
                              | exact hok _ _ _ (by rw [p_s0, ho, if_neg (by omega), if_pos (by rw [show p_fw true = 15 from rfl, show p_la true = 21 from rfl]; omega), if_neg (by omega), if_neg (by omega), if_neg (fun q => by have := q.2; omega)])
                          | false =>
                            rw [ho] at y10 y8 y9
                            have y10 : m m_ 10 = 0 := y10
                            have y8 : m m_ 8 = 8 := y8
                            have y9 : m m_ 9 = 15 := y9
                            first
                              | (exfalso; omega)
                              | exact hok _ _ _ (by rw [p_s0, ho, if_neg (by omega), if_pos (by rw [show p_fw false = 8 from rfl, show p_la false = 15 from rfl]; omega), if_neg (by omega), if_pos (by omega)])
                              | exact hok _ _ _ (by rw [p_s0, ho, if_neg (by omega), if_pos (by rw [show p_fw false = 8 from rfl, show p_la false = 15 from rfl]; omega), if_neg (by omega), if_neg (by omega), if_neg (fun q => by cases q.1)])
                        · show Q none (y_m m (i + 1) (l + 1) b56)
                          cases ho : o with
                          | true =>
                            rw [ho] at y10 y8 y9
                            have y10 : m m_ 10 = 1 := y10
                            have y8 : m m_ 8 = 15 := y8
                            have y9 : m m_ 9 = 21 := y9
                            first
                              | (exfalso; omega)
                              | exact her _ _ _ _ (by rw [p_s0, ho, if_pos (by omega), if_pos (by omega)]) eb56 nb56
                              | exact her _ _ _ _ (by rw [p_s0, ho, if_neg (by omega), if_pos (by rw [show p_fw true = 15 from rfl, show p_la true = 21 from rfl]; omega), if_pos (by omega)]) eb56 nb56
                              | exact her _ _ _ _ (by rw [p_s0, ho, if_neg (by omega), if_neg (by rw [show p_fw true = 15 from rfl, show p_la true = 21 from rfl]; omega)]) eb56 nb56
                              | exact her _ _ _ _ (by rw [p_s0, ho, if_neg (by omega), if_pos (by rw [show p_fw true = 15 from rfl, show p_la true = 21 from rfl]; omega), if_neg (by omega), if_neg (by omega), if_pos ⟨rfl, by omega⟩, if_neg (by have := hY.2.2.1 (i + 1) (by omega) (by omega); omega)]) eb56 nb56
                          | false =>
                            rw [ho] at y10 y8 y9
                            have y10 : m m_ 10 = 0 := y10
                            have y8 : m m_ 8 = 8 := y8
                            have y9 : m m_ 9 = 15 := y9
                            first
                              | (exfalso; omega)
                              | exact her _ _ _ _ (by rw [p_s0, ho, if_pos (by omega), if_pos (by omega)]) eb56 nb56
                              | exact her _ _ _ _ (by rw [p_s0, ho, if_neg (by omega), if_pos (by rw [show p_fw false = 8 from rfl, show p_la false = 15 from rfl]; omega), if_pos (by omega)]) eb56 nb56
                              | exact her _ _ _ _ (by rw [p_s0, ho, if_neg (by omega), if_neg (by rw [show p_fw false = 8 from rfl, show p_la false = 15 from rfl]; omega)]) eb56 nb56
                · refine And.intro (fun (c57 : m m_ 10 = 0) => ?_) (fun (c57 : ¬ (m m_ 10 = 0)) => ?_)
                  · show Q none (y_m m i (l + 1) b45)
                    cases ho : o with
                    | true =>
                      rw [ho] at y10 y8 y9
                      have y10 : m m_ 10 = 1 := y10
                      have y8 : m m_ 8 = 15 := y8
                      have y9 : m m_ 9 = 21 := y9
                      first
                        | (exfalso; omega)
                        | exact her _ _ _ _ (by rw [p_s0, ho, if_pos (by omega), if_pos (by omega)]) eb45 nb45
                        | exact her _ _ _ _ (by rw [p_s0, ho, if_neg (by omega), if_pos (by rw [show p_fw true = 15 from rfl, show p_la true = 21 from rfl]; omega), if_pos (by omega)]) eb45 nb45
                        | exact her _ _ _ _ (by rw [p_s0, ho, if_neg (by omega), if_neg (by rw [show p_fw true = 15 from rfl, show p_la true = 21 from rfl]; omega)]) eb45 nb45
                        | exact her _ _ _ _ (by rw [p_s0, ho, if_neg (by omega), if_pos (by rw [show p_fw true = 15 from rfl, show p_la true = 21 from rfl]; omega), if_neg (by omega), if_neg (by omega), if_pos ⟨rfl, by omega⟩, if_neg (by have := hY.2.2.1 (i + 1) (by omega) (by omega); omega)]) eb45 nb45
                    | false =>
                      rw [ho] at y10 y8 y9
                      have y10 : m m_ 10 = 0 := y10
                      have y8 : m m_ 8 = 8 := y8
                      have y9 : m m_ 9 = 15 := y9
                      first
                        | (exfalso; omega)
                        | exact her _ _ _ _ (by rw [p_s0, ho, if_pos (by omega), if_pos (by omega)]) eb45 nb45
                        | exact her _ _ _ _ (by rw [p_s0, ho, if_neg (by omega), if_pos (by rw [show p_fw false = 8 from rfl, show p_la false = 15 from rfl]; omega), if_pos (by omega)]) eb45 nb45
                        | exact her _ _ _ _ (by rw [p_s0, ho, if_neg (by omega), if_neg (by rw [show p_fw false = 8 from rfl, show p_la false = 15 from rfl]; omega)]) eb45 nb45
                  · refine And.intro (fun (c58 : m m_code_ i = 20) => ?_) (fun (c58 : ¬ (m m_code_ i = 20)) => ?_)
                    · show cw_C _ _ [vr m_, vi 0, vi 5] (y_m m i (l + 1) b45) _
                      refine M_mustNumber0 hm0 (by omega) ⟨(y_m_ok hm0), ?_⟩
                      show Q none (y_m m i (l + 1) b45)
                      cases ho : o with
                      | true =>
                        rw [ho] at y10 y8 y9
                        have y10 : m m_ 10 = 1 := y10
                        have y8 : m m_ 8 = 15 := y8
                        have y9 : m m_ 9 = 21 := y9
                        first
                          | (exfalso; omega)
                          | exact her _ _ _ _ (by rw [p_s0, ho, if_pos (by omega), if_pos (by omega)]) eb45 nb45
                          | exact her _ _ _ _ (by rw [p_s0, ho, if_neg (by omega), if_pos (by rw [show p_fw true = 15 from rfl, show p_la true = 21 from rfl]; omega), if_pos (by omega)]) eb45 nb45
                          | exact her _ _ _ _ (by rw [p_s0, ho, if_neg (by omega), if_neg (by rw [show p_fw true = 15 from rfl, show p_la true = 21 from rfl]; omega)]) eb45 nb45
                          | exact her _ _ _ _ (by rw [p_s0, ho, if_neg (by omega), if_pos (by rw [show p_fw true = 15 from rfl, show p_la true = 21 from rfl]; omega), if_neg (by omega), if_neg (by omega), if_pos ⟨rfl, by omega⟩, if_neg (by have := hY.2.2.1 (i + 1) (by omega) (by omega); omega)]) eb45 nb45
                      | false =>
                        rw [ho] at y10 y8 y9
                        have y10 : m m_ 10 = 0 := y10
                        have y8 : m m_ 8 = 8 := y8
                        have y9 : m m_ 9 = 15 := y9
                        first
                          | (exfalso; omega)
                          | exact her _ _ _ _ (by rw [p_s0, ho, if_pos (by omega), if_pos (by omega)]) eb45 nb45
                          | exact her _ _ _ _ (by rw [p_s0, ho, if_neg (by omega), if_pos (by rw [show p_fw false = 8 from rfl, show p_la false = 15 from rfl]; omega), if_pos (by omega)]) eb45 nb45
                          | exact her _ _ _ _ (by rw [p_s0, ho, if_neg (by omega), if_neg (by rw [show p_fw false = 8 from rfl, show p_la false = 15 from rfl]; omega)]) eb45 nb45
                    · refine And.intro (fun (c59 : m m_code_ i ≠ 21) => ?_) (fun (c59 : ¬ (m m_code_ i ≠ 21)) => ?_)
                      · show Q none (y_m m i (l + 1) b45)
                        cases ho : o with
                        | true =>
                          rw [ho] at y10 y8 y9
                          have y10 : m m_ 10 = 1 := y10
                          have y8 : m m_ 8 = 15 := y8
                          have y9 : m m_ 9 = 21 := y9
                          first
                            | (exfalso; omega)
                            | exact her _ _ _ _ (by rw [p_s0, ho, if_pos (by omega), if_pos (by omega)]) eb45 nb45
                            | exact her _ _ _ _ (by rw [p_s0, ho, if_neg (by omega), if_pos (by rw [show p_fw true = 15 from rfl, show p_la true = 21 from rfl]; omega), if_pos (by omega)]) eb45 nb45
                            | exact her _ _ _ _ (by rw [p_s0, ho, if_neg (by omega), if_neg (by rw [show p_fw true = 15 from rfl, show p_la true = 21 from rfl]; omega)]) eb45 nb45
                            | exact her _ _ _ _ (by rw [p_s0, ho, if_neg (by omega), if_pos (by rw [show p_fw true = 15 from rfl, show p_la true = 21 from rfl]; omega), if_neg (by omega), if_neg (by omega), if_pos ⟨rfl, by omega⟩, if_neg (by have := hY.2.2.1 (i + 1) (by omega) (by omega); omega)]) eb45 nb45
                        | false =>
                          rw [ho] at y10 y8 y9
                          have y10 : m m_ 10 = 0 := y10
                          have y8 : m m_ 8 = 8 := y8
                          have y9 : m m_ 9 = 15 := y9
                          first
                            | (exfalso; omega)
                            | exact her _ _ _ _ (by rw [p_s0, ho, if_pos (by omega), if_pos (by omega)]) eb45 nb45
                            | exact her _ _ _ _ (by rw [p_s0, ho, if_neg (by omega), if_pos (by rw [show p_fw false = 8 from rfl, show p_la false = 15 from rfl]; omega), if_pos (by omega)]) eb45 nb45
                            | exact her _ _ _ _ (by rw [p_s0, ho, if_neg (by omega), if_neg (by rw [show p_fw false = 8 from rfl, show p_la false = 15 from rfl]; omega)]) eb45 nb45
                      · show cw_C _ _ [vr m_, vi 0, vi 5] (y_m m i (l + 1) b45) _
                        refine M_mustNumber0 hm0 (by omega) ⟨(y_m_ok hm0), ?_⟩
                        show Q none (y_m m i (l + 1) b45)
                        cases ho : o with
                        | true =>
                          rw [ho] at y10 y8 y9
                          have y10 : m m_ 10 = 1 := y10
                          have y8 : m m_ 8 = 15 := y8
                          have y9 : m m_ 9 = 21 := y9
                          first
                            | (exfalso; omega)
                            | exact her _ _ _ _ (by rw [p_s0, ho, if_pos (by omega), if_pos (by omega)]) eb45 nb45
                            | exact her _ _ _ _ (by rw [p_s0, ho, if_neg (by omega), if_pos (by rw [show p_fw true = 15 from rfl, show p_la true = 21 from rfl]; omega), if_pos (by omega)]) eb45 nb45
                            | exact her _ _ _ _ (by rw [p_s0, ho, if_neg (by omega), if_neg (by rw [show p_fw true = 15 from rfl, show p_la true = 21 from rfl]; omega)]) eb45 nb45
                            | exact her _ _ _ _ (by rw [p_s0, ho, if_neg (by omega), if_pos (by rw [show p_fw true = 15 from rfl, show p_la true = 21 from rfl]; omega), if_neg (by omega), if_neg (by omega), if_pos ⟨rfl, by omega⟩, if_neg (by have := hY.2.2.1 (i + 1) (by omega) (by omega); omega)]) eb45 nb45
                        | false =>
                          rw [ho] at y10 y8 y9
                          have y10 : m m_ 10 = 0 := y10
                          have y8 : m m_ 8 = 8 := y8
                          have y9 : m m_ 9 = 15 := y9
                          first
                            | (exfalso; omega)
                            | exact her _ _ _ _ (by rw [p_s0, ho, if_pos (by omega), if_pos (by omega)]) eb45 nb45
                            | exact her _ _ _ _ (by rw [p_s0, ho, if_neg (by omega), if_pos (by rw [show p_fw false = 8 from rfl, show p_la false = 15 from rfl]; omega), if_pos (by omega)]) eb45 nb45
                            | exact her _ _ _ _ (by rw [p_s0, ho, if_neg (by omega), if_neg (by rw [show p_fw false = 8 from rfl, show p_la false = 15 from rfl]; omega)]) eb45 nb45
      · refine And.intro (fun (c60 : dp ≠ 8) => ?_) (fun (c60 : ¬ (dp ≠ 8)) => ?_)
        · show cw_C _ _ [vr m_] (y_m m i l (-1)) _
          refine M_fine1 hm0 ⟨hm, ?_⟩
          refine br_t (show (1 : Int) ≠ 0 by decide) ?_
          refine And.intro (show -2147483648 ≤ i + 1 ∧ i + 1 < 2147483648 by omega) ?_
          have hm61 : la_ok (cw_put (y_m m i l (-1)) m_ 19 (i + 1)) := la_put hm (by decide) (Or.inl rfl)
          refine And.intro (show -2147483648 ≤ dp + 1 ∧ dp + 1 < 2147483648 by omega) ?_
          show cw_C _ _ [vr m_, vi (dp + 1)] (cw_put (y_m m i l (-1)) m_ 19 (i + 1)) _
          rw [y_m_ftk]
          have hm62 : la_ok (y_m m (i + 1) l (-1)) := y_m_ok hm0
          refine ih.2.2.2.1 _ (dp + 1) (i + 1) l acc _ (by omega) (by omega) (by omega) (by omega) (by omega) (by omega) (by omega) (by omega) (fun (i63 l63 : Int) (D63 : p_D) (e63 : p_s c v o f 3 (dp + 1) (i + 1) l acc = .ok (i63, l63, D63)) => ⟨(y_m_ok hm0), ?_⟩) (fun (r63 t63 u63 b63 : Int) (e63 : p_s c v o f 3 (dp + 1) (i + 1) l acc = .error r63) (eb63 : b63 = pl r63) (nb63 : 0 ≤ b63) => ⟨(y_m_ok hm0), ?_⟩)
          · have N63 := p_Nok ((p_sN (c := c) (v := v) (o := o) hY.2.1 f (dp := dp + 1) (i := i + 1) (l := l) (acc := acc) (by omega) (by omega) (by omega) (by omega)).2.2.2.1 (by omega)) e63
            have S63 := N63.2.2.2.2 rfl
            show cw_C _ _ [vi 93] (y_m m i63 l63 (-1)) _
            refine M_sign (by decide) rfl ⟨(y_m_ok hm0), ?_⟩
            show cw_C _ _ [vr m_, vi 193] (y_m m i63 l63 (-1)) _
            refine M_must1 hm0 hY (by omega) (by omega) (fun (a64 : c i63 = 193) => ⟨(y_m_ok hm0), ?_⟩) (fun (a64 : c i63 ≠ 193) (b65 : Int) (eb65 : b65 = pl i63) (nb65 : 0 ≤ b65) => ⟨(y_m_ok hm0), ?_⟩)
            · show Q none (y_m m (i63 + 1) l63 (-1))
              exact hok _ _ _ (by rw [p_s0, if_pos (by omega), if_neg (by omega), e63]; show (if _ then _ else _) = _; rw [if_pos (by omega)])
            · show Q none (y_m m i63 l63 b65)
              exact her _ _ _ _ (by rw [p_s0, if_pos (by omega), if_neg (by omega), e63]; show (if _ then _ else _) = _; rw [if_neg (by omega)]) eb65 nb65
          · show cw_C _ _ [vi 93] (y_m m t63 u63 b63) _
            refine M_sign (by decide) rfl ⟨(y_m_ok hm0), ?_⟩
            show cw_C _ _ [vr m_, vi 193] (y_m m t63 u63 b63) _
            refine M_must0 hm0 (by omega) ⟨(y_m_ok hm0), ?_⟩
            show Q none (y_m m t63 u63 b63)
            exact her r63 _ _ _ (by rw [p_s0, if_pos (by omega), if_neg (by omega), e63]; rfl) eb63 nb63
        · show cw_C _ _ [vr m_] (y_m m i l (-1)) _
          refine M_faults1 hm0 hY (by omega) (by omega) (fun (b66 : Int) (eb66 : b66 = pl i) (nb66 : 0 ≤ b66) => ⟨(y_m_ok hm0), ?_⟩)
          show cw_C _ _ [vr m_] (y_m m i l b66) _
          refine M_fine0 hm0 (by omega) ⟨(y_m_ok hm0), ?_⟩
          refine br_f (show ¬ ((0 : Int) ≠ 0) by decide) ?_
          show Q none (y_m m i l b66)
          cases ho : o with
          | true =>
            rw [ho] at y10 y8 y9
            have y10 : m m_ 10 = 1 := y10
            have y8 : m m_ 8 = 15 := y8
            have y9 : m m_ 9 = 21 := y9
            first
              | (exfalso; omega)
              | exact her _ _ _ _ (by rw [p_s0, ho, if_pos (by omega), if_pos (by omega)]) eb66 nb66
              | exact her _ _ _ _ (by rw [p_s0, ho, if_neg (by omega), if_pos (by rw [show p_fw true = 15 from rfl, show p_la true = 21 from rfl]; omega), if_pos (by omega)]) eb66 nb66
              | exact her _ _ _ _ (by rw [p_s0, ho, if_neg (by omega), if_neg (by rw [show p_fw true = 15 from rfl, show p_la true = 21 from rfl]; omega)]) eb66 nb66
              | exact her _ _ _ _ (by rw [p_s0, ho, if_neg (by omega), if_pos (by rw [show p_fw true = 15 from rfl, show p_la true = 21 from rfl]; omega), if_neg (by omega), if_neg (by omega), if_pos ⟨rfl, by omega⟩, if_neg (by have := hY.2.2.1 (i + 1) (by omega) (by omega); omega)]) eb66 nb66
          | false =>
            rw [ho] at y10 y8 y9
            have y10 : m m_ 10 = 0 := y10
            have y8 : m m_ 8 = 8 := y8
            have y9 : m m_ 9 = 15 := y9
            first
              | (exfalso; omega)
              | exact her _ _ _ _ (by rw [p_s0, ho, if_pos (by omega), if_pos (by omega)]) eb66 nb66
              | exact her _ _ _ _ (by rw [p_s0, ho, if_neg (by omega), if_pos (by rw [show p_fw false = 8 from rfl, show p_la false = 15 from rfl]; omega), if_pos (by omega)]) eb66 nb66
              | exact her _ _ _ _ (by rw [p_s0, ho, if_neg (by omega), if_neg (by rw [show p_fw false = 8 from rfl, show p_la false = 15 from rfl]; omega)]) eb66 nb66
    · intro d0 dp i l acc Q h0 h1 hl0 hl1 hd0 hd8 hd hf hok her
      obtain ⟨d, rfl⟩ : ∃ k, d0 = k + 4 := ⟨d0 - 4, by omega⟩
      have yn := hY.1
      have y := hY.2.2.1 i h0 h1
      have hm : la_ok (y_m m i l (-1)) := y_m_ok hm0
      refine la_go_C hm 6 [5] ?_
      show cw_C _ _ [vr m_, vi dp] (y_m m i l (-1)) _
      refine ih.1 _ dp i l acc _ (by omega) (by omega) (by omega) (by omega) (by omega) (by omega) (by omega) (by omega) (fun (i1 l1 : Int) (D1 : p_D) (e1 : p_s c v o f 0 dp i l acc = .ok (i1, l1, D1)) => ⟨(y_m_ok hm0), ?_⟩) (fun (r1 t1 u1 b1 : Int) (e1 : p_s c v o f 0 dp i l acc = .error r1) (eb1 : b1 = pl r1) (nb1 : 0 ≤ b1) => ⟨(y_m_ok hm0), ?_⟩)
      · have N1 := p_Nok ((p_sN (c := c) (v := v) (o := o) hY.2.1 f (dp := dp) (i := i) (l := l) (acc := acc) (by omega) (by omega) (by omega) (by omega)).1 (by omega)) e1
        have S1 := N1.2.2.2.2 rfl
        show cw_R _ _ 5 [vr m_, vi dp] [] (y_m m i1 l1 (-1)) _
        exact ih.2.2.1 _ dp i1 l1 D1 _ (by omega) (by omega) (by omega) (by omega) (by omega) (by omega) (by omega) (by omega) (fun iz lz Dz ez => hok iz lz Dz (by rw [p_s1, e1]; exact ez)) (fun er tk lv bd ez => her er tk lv bd (by rw [p_s1, e1]; exact ez))
      · show cw_R _ _ 5 [vr m_, vi dp] [] (y_m m t1 u1 b1) _
        exact M_readTerm5b hm0 nb1 (her r1 _ _ _ (by rw [p_s1, e1]; rfl) eb1 nb1)
    · intro d0 dp i l acc Q h0 h1 hl0 hl1 hd0 hd8 hd hf hok her
      obtain ⟨d, rfl⟩ : ∃ k, d0 = k + 4 := ⟨d0 - 4, by omega⟩
      have yn := hY.1
      have y := hY.2.2.1 i h0 h1
      have hm : la_ok (y_m m i l (-1)) := y_m_ok hm0
      have hlt : c i ≠ 0 → i < n := fun q => by
        by_cases e : i = n
        · rw [e, hY.2.1] at q; exact absurd rfl q
        · omega
      have hin : c i = 142 ∨ c i = 147 ∨ c i = 137 → i < n := fun q => hlt (by omega)
      refine la_go_R hm 22 [5] ?_
      show cw_C _ _ [vi 42] (y_m m i l (-1)) _
      refine M_sign (by decide) rfl ⟨hm, ?_⟩
      show cw_C _ _ [vr m_, vi 142] (y_m m i l (-1)) _
      refine M_takes01 hm0 hY (by omega) (by omega) (fun (a1 : c i = 142) => ⟨(y_m_ok hm0), ?_⟩) (fun (a1 : c i ≠ 142) => ⟨hm, ?_⟩)
      · refine br_t (show (1 : Int) ≠ 0 by decide) ?_
        show cw_C _ _ [vr m_, vi dp] (y_m m (i + 1) l (-1)) _
        refine ih.1 _ dp (i + 1) l acc _ (by omega) (by omega) (by omega) (by omega) (by omega) (by omega) (by omega) (by omega) (fun (i2 l2 : Int) (D2 : p_D) (e2 : p_s c v o f 0 dp (i + 1) l acc = .ok (i2, l2, D2)) => ⟨(y_m_ok hm0), ?_⟩) (fun (r2 t2 u2 b2 : Int) (e2 : p_s c v o f 0 dp (i + 1) l acc = .error r2) (eb2 : b2 = pl r2) (nb2 : 0 ≤ b2) => ⟨(y_m_ok hm0), ?_⟩)
        · have N2 := p_Nok ((p_sN (c := c) (v := v) (o := o) hY.2.1 f (dp := dp) (i := i + 1) (l := l) (acc := acc) (by omega) (by omega) (by omega) (by omega)).1 (by omega)) e2
          have S2 := N2.2.2.2.2 rfl
          show cw_R _ _ 5 [vr m_, vi dp] [] (y_m m i2 l2 (-1)) _
          exact ih.2.2.1 _ dp i2 l2 (p_bin (c i) acc D2) _ (by omega) (by omega) (by omega) (by omega) (by omega) (by omega) (by omega) (by omega) (fun iz lz Dz ez => hok iz lz Dz (by rw [p_s2, if_pos (by omega), e2]; exact ez)) (fun er tk lv bd ez => her er tk lv bd (by rw [p_s2, if_pos (by omega), e2]; exact ez))
        · show cw_R _ _ 5 [vr m_, vi dp] [] (y_m m t2 u2 b2) _
          exact M_readTerm5b hm0 nb2 (her r2 _ _ _ (by rw [p_s2, if_pos (by omega), e2]; rfl) eb2 nb2)
      · refine br_f (show ¬ ((0 : Int) ≠ 0) by decide) ?_
        show cw_C _ _ [vi 47] (y_m m i l (-1)) _
        refine M_sign (by decide) rfl ⟨hm, ?_⟩
        show cw_C _ _ [vr m_, vi 147] (y_m m i l (-1)) _
        refine M_takes01 hm0 hY (by omega) (by omega) (fun (a3 : c i = 147) => ⟨(y_m_ok hm0), ?_⟩) (fun (a3 : c i ≠ 147) => ⟨hm, ?_⟩)
        · refine br_t (show (1 : Int) ≠ 0 by decide) ?_
          show cw_C _ _ [vr m_, vi dp] (y_m m (i + 1) l (-1)) _
          refine ih.1 _ dp (i + 1) l acc _ (by omega) (by omega) (by omega) (by omega) (by omega) (by omega) (by omega) (by omega) (fun (i4 l4 : Int) (D4 : p_D) (e4 : p_s c v o f 0 dp (i + 1) l acc = .ok (i4, l4, D4)) => ⟨(y_m_ok hm0), ?_⟩) (fun (r4 t4 u4 b4 : Int) (e4 : p_s c v o f 0 dp (i + 1) l acc = .error r4) (eb4 : b4 = pl r4) (nb4 : 0 ≤ b4) => ⟨(y_m_ok hm0), ?_⟩)
          · have N4 := p_Nok ((p_sN (c := c) (v := v) (o := o) hY.2.1 f (dp := dp) (i := i + 1) (l := l) (acc := acc) (by omega) (by omega) (by omega) (by omega)).1 (by omega)) e4
            have S4 := N4.2.2.2.2 rfl
            show cw_R _ _ 5 [vr m_, vi dp] [] (y_m m i4 l4 (-1)) _
            exact ih.2.2.1 _ dp i4 l4 (p_bin (c i) acc D4) _ (by omega) (by omega) (by omega) (by omega) (by omega) (by omega) (by omega) (by omega) (fun iz lz Dz ez => hok iz lz Dz (by rw [p_s2, if_pos (by omega), e4]; exact ez)) (fun er tk lv bd ez => her er tk lv bd (by rw [p_s2, if_pos (by omega), e4]; exact ez))
          · show cw_R _ _ 5 [vr m_, vi dp] [] (y_m m t4 u4 b4) _
            exact M_readTerm5b hm0 nb4 (her r4 _ _ _ (by rw [p_s2, if_pos (by omega), e4]; rfl) eb4 nb4)
        · refine br_f (show ¬ ((0 : Int) ≠ 0) by decide) ?_
          show cw_C _ _ [vi 37] (y_m m i l (-1)) _
          refine M_sign (by decide) rfl ⟨hm, ?_⟩
          show cw_C _ _ [vr m_, vi 137] (y_m m i l (-1)) _
          refine M_takes01 hm0 hY (by omega) (by omega) (fun (a5 : c i = 137) => ⟨(y_m_ok hm0), ?_⟩) (fun (a5 : c i ≠ 137) => ⟨hm, ?_⟩)
          · refine br_f (show ¬ ((1 : Int) = 0) by decide) ?_
            show cw_C _ _ [vr m_, vi dp] (y_m m (i + 1) l (-1)) _
            refine ih.1 _ dp (i + 1) l acc _ (by omega) (by omega) (by omega) (by omega) (by omega) (by omega) (by omega) (by omega) (fun (i6 l6 : Int) (D6 : p_D) (e6 : p_s c v o f 0 dp (i + 1) l acc = .ok (i6, l6, D6)) => ⟨(y_m_ok hm0), ?_⟩) (fun (r6 t6 u6 b6 : Int) (e6 : p_s c v o f 0 dp (i + 1) l acc = .error r6) (eb6 : b6 = pl r6) (nb6 : 0 ≤ b6) => ⟨(y_m_ok hm0), ?_⟩)
            · have N6 := p_Nok ((p_sN (c := c) (v := v) (o := o) hY.2.1 f (dp := dp) (i := i + 1) (l := l) (acc := acc) (by omega) (by omega) (by omega) (by omega)).1 (by omega)) e6
              have S6 := N6.2.2.2.2 rfl
              show cw_R _ _ 5 [vr m_, vi dp] [] (y_m m i6 l6 (-1)) _
              exact ih.2.2.1 _ dp i6 l6 (p_bin (c i) acc D6) _ (by omega) (by omega) (by omega) (by omega) (by omega) (by omega) (by omega) (by omega) (fun iz lz Dz ez => hok iz lz Dz (by rw [p_s2, if_pos (by omega), e6]; exact ez)) (fun er tk lv bd ez => her er tk lv bd (by rw [p_s2, if_pos (by omega), e6]; exact ez))
            · show cw_R _ _ 5 [vr m_, vi dp] [] (y_m m t6 u6 b6) _
              exact M_readTerm5b hm0 nb6 (her r6 _ _ _ (by rw [p_s2, if_pos (by omega), e6]; rfl) eb6 nb6)
          · refine br_t (show (0 : Int) = 0 by decide) ?_
            show Q none (y_m m i l (-1))
            exact hok _ _ _ (by rw [p_s2, if_neg (by omega)])
    · intro d0 dp i l acc Q h0 h1 hl0 hl1 hd0 hd8 hd hf hok her
      obtain ⟨d, rfl⟩ : ∃ k, d0 = k + 5 := ⟨d0 - 5, by omega⟩
      have yn := hY.1
      have y := hY.2.2.1 i h0 h1
      have hm : la_ok (y_m m i l (-1)) := y_m_ok hm0
      refine la_go_C hm 6 [5] ?_
      show cw_C _ _ [vr m_, vi dp] (y_m m i l (-1)) _
      refine ih.2.1 _ dp i l acc _ (by omega) (by omega) (by omega) (by omega) (by omega) (by omega) (by omega) (by omega) (fun (i1 l1 : Int) (D1 : p_D) (e1 : p_s c v o f 1 dp i l acc = .ok (i1, l1, D1)) => ⟨(y_m_ok hm0), ?_⟩) (fun (r1 t1 u1 b1 : Int) (e1 : p_s c v o f 1 dp i l acc = .error r1) (eb1 : b1 = pl r1) (nb1 : 0 ≤ b1) => ⟨(y_m_ok hm0), ?_⟩)
      · have N1 := p_Nok ((p_sN (c := c) (v := v) (o := o) hY.2.1 f (dp := dp) (i := i) (l := l) (acc := acc) (by omega) (by omega) (by omega) (by omega)).2.1 (by omega)) e1
        have S1 := N1.2.2.2.2 rfl
        show cw_R _ _ 5 [vr m_, vi dp] [] (y_m m i1 l1 (-1)) _
        exact ih.2.2.2.2 _ dp i1 l1 D1 _ (by omega) (by omega) (by omega) (by omega) (by omega) (by omega) (by omega) (by omega) (fun iz lz Dz ez => hok iz lz Dz (by rw [p_s3, e1]; exact ez)) (fun er tk lv bd ez => her er tk lv bd (by rw [p_s3, e1]; exact ez))
      · show cw_R _ _ 5 [vr m_, vi dp] [] (y_m m t1 u1 b1) _
        exact M_readSum5b hm0 nb1 (her r1 _ _ _ (by rw [p_s3, e1]; rfl) eb1 nb1)
    · intro d0 dp i l acc Q h0 h1 hl0 hl1 hd0 hd8 hd hf hok her
      obtain ⟨d, rfl⟩ : ∃ k, d0 = k + 5 := ⟨d0 - 5, by omega⟩
      have yn := hY.1
      have y := hY.2.2.1 i h0 h1
      have hm : la_ok (y_m m i l (-1)) := y_m_ok hm0
      have hlt : c i ≠ 0 → i < n := fun q => by
        by_cases e : i = n
        · rw [e, hY.2.1] at q; exact absurd rfl q
        · omega
      have hin : c i = 143 ∨ c i = 145 → i < n := fun q => hlt (by omega)
      refine la_go_R hm 17 [5] ?_
      show cw_C _ _ [vi 43] (y_m m i l (-1)) _
      refine M_sign (by decide) rfl ⟨hm, ?_⟩
      show cw_C _ _ [vr m_, vi 143] (y_m m i l (-1)) _
      refine M_takes01 hm0 hY (by omega) (by omega) (fun (a1 : c i = 143) => ⟨(y_m_ok hm0), ?_⟩) (fun (a1 : c i ≠ 143) => ⟨hm, ?_⟩)
      · refine br_t (show (1 : Int) ≠ 0 by decide) ?_
        show cw_C _ _ [vr m_, vi dp] (y_m m (i + 1) l (-1)) _
        refine ih.2.1 _ dp (i + 1) l acc _ (by omega) (by omega) (by omega) (by omega) (by omega) (by omega) (by omega) (by omega) (fun (i2 l2 : Int) (D2 : p_D) (e2 : p_s c v o f 1 dp (i + 1) l acc = .ok (i2, l2, D2)) => ⟨(y_m_ok hm0), ?_⟩) (fun (r2 t2 u2 b2 : Int) (e2 : p_s c v o f 1 dp (i + 1) l acc = .error r2) (eb2 : b2 = pl r2) (nb2 : 0 ≤ b2) => ⟨(y_m_ok hm0), ?_⟩)
        · have N2 := p_Nok ((p_sN (c := c) (v := v) (o := o) hY.2.1 f (dp := dp) (i := i + 1) (l := l) (acc := acc) (by omega) (by omega) (by omega) (by omega)).2.1 (by omega)) e2
          have S2 := N2.2.2.2.2 rfl
          show cw_R _ _ 5 [vr m_, vi dp] [] (y_m m i2 l2 (-1)) _
          exact ih.2.2.2.2 _ dp i2 l2 (p_bin (c i) acc D2) _ (by omega) (by omega) (by omega) (by omega) (by omega) (by omega) (by omega) (by omega) (fun iz lz Dz ez => hok iz lz Dz (by rw [p_s4, if_pos (by omega), e2]; exact ez)) (fun er tk lv bd ez => her er tk lv bd (by rw [p_s4, if_pos (by omega), e2]; exact ez))
        · show cw_R _ _ 5 [vr m_, vi dp] [] (y_m m t2 u2 b2) _
          exact M_readSum5b hm0 nb2 (her r2 _ _ _ (by rw [p_s4, if_pos (by omega), e2]; rfl) eb2 nb2)
      · refine br_f (show ¬ ((0 : Int) ≠ 0) by decide) ?_
        show cw_C _ _ [vi 45] (y_m m i l (-1)) _
        refine M_sign (by decide) rfl ⟨hm, ?_⟩
        show cw_C _ _ [vr m_, vi 145] (y_m m i l (-1)) _
        refine M_takes01 hm0 hY (by omega) (by omega) (fun (a3 : c i = 145) => ⟨(y_m_ok hm0), ?_⟩) (fun (a3 : c i ≠ 145) => ⟨hm, ?_⟩)
        · refine br_f (show ¬ ((1 : Int) = 0) by decide) ?_
          show cw_C _ _ [vr m_, vi dp] (y_m m (i + 1) l (-1)) _
          refine ih.2.1 _ dp (i + 1) l acc _ (by omega) (by omega) (by omega) (by omega) (by omega) (by omega) (by omega) (by omega) (fun (i4 l4 : Int) (D4 : p_D) (e4 : p_s c v o f 1 dp (i + 1) l acc = .ok (i4, l4, D4)) => ⟨(y_m_ok hm0), ?_⟩) (fun (r4 t4 u4 b4 : Int) (e4 : p_s c v o f 1 dp (i + 1) l acc = .error r4) (eb4 : b4 = pl r4) (nb4 : 0 ≤ b4) => ⟨(y_m_ok hm0), ?_⟩)
          · have N4 := p_Nok ((p_sN (c := c) (v := v) (o := o) hY.2.1 f (dp := dp) (i := i + 1) (l := l) (acc := acc) (by omega) (by omega) (by omega) (by omega)).2.1 (by omega)) e4
            have S4 := N4.2.2.2.2 rfl
            show cw_R _ _ 5 [vr m_, vi dp] [] (y_m m i4 l4 (-1)) _
            exact ih.2.2.2.2 _ dp i4 l4 (p_bin (c i) acc D4) _ (by omega) (by omega) (by omega) (by omega) (by omega) (by omega) (by omega) (by omega) (fun iz lz Dz ez => hok iz lz Dz (by rw [p_s4, if_pos (by omega), e4]; exact ez)) (fun er tk lv bd ez => her er tk lv bd (by rw [p_s4, if_pos (by omega), e4]; exact ez))
          · show cw_R _ _ 5 [vr m_, vi dp] [] (y_m m t4 u4 b4) _
            exact M_readSum5b hm0 nb4 (her r4 _ _ _ (by rw [p_s4, if_pos (by omega), e4]; rfl) eb4 nb4)
        · refine br_t (show (0 : Int) = 0 by decide) ?_
          show Q none (y_m m i l (-1))
          exact hok _ _ _ (by rw [p_s4, if_neg (by omega)])
