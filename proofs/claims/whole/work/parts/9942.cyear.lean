/-! Years by draws, by the class (wip/whole/tools/m142.py). -/
theorem u_nA {g : Int → Int → Int} : ∀ n : Nat, (∀ r : Int, 0 ≤ r → r < n → al_6 g 0 r) → u_n g n ≤ 1
  | 0, _ => (by decide : (0 : Int) ≤ 1)
  | n + 1, h => by
    show u_n g n + @ite _ (∃ i : Int, (0 ≤ i ∧ i < n) ∧ al_6 g i n) (Classical.propDecidable _) 0 1 ≤ 1
    have i1 := u_nA n (fun r a b => h r a (by omega))
    by_cases q : n = 0
    · subst q
      show 0 + @ite _ (∃ i : Int, (0 ≤ i ∧ i < ((0 : Nat) : Int)) ∧ al_6 g i ((0 : Nat) : Int)) (Classical.propDecidable _) 0 1 ≤ (1 : Int)
      split <;> decide
    · rw [if_pos ⟨0, ⟨by omega, by omega⟩, h n (by omega) (by omega)⟩]
      omega
theorem u_nC {g : Int → Int → Int} : ∀ n : Nat, 1 ≤ u_n g (n + 1)
  | 0 => by
    show 1 ≤ 0 + @ite _ (∃ i : Int, (0 ≤ i ∧ i < ((0 : Nat) : Int)) ∧ al_6 g i ((0 : Nat) : Int)) (Classical.propDecidable _) 0 1
    rw [if_neg (fun ⟨i, a, _⟩ => by omega)]
    decide
  | n + 1 => by
    have i1 := u_nC (g := g) n
    show 1 ≤ u_n g (n + 1) + @ite _ (∃ i : Int, (0 ≤ i ∧ i < ((n + 1 : Nat) : Int)) ∧ al_6 g i ((n + 1 : Nat) : Int)) (Classical.propDecidable _) 0 1
    split <;> omega
theorem u_nB {g : Int → Int → Int} {r : Int} : ∀ n : Nat, 0 ≤ r → r < n → ¬ al_6 g 0 r → 2 ≤ u_n g n
  | 0, a, b, _ => by omega
  | n + 1, a, b, h => by
    show 2 ≤ u_n g n + @ite _ (∃ i : Int, (0 ≤ i ∧ i < n) ∧ al_6 g i n) (Classical.propDecidable _) 0 1
    by_cases q : r < n
    · have i1 := u_nB n a q h
      split <;> omega
    · have er : r = n := by omega
      by_cases q2 : ∃ s : Int, (0 ≤ s ∧ s < n) ∧ ¬ al_6 g 0 s
      · obtain ⟨s, hs, hs2⟩ := q2
        have i1 := u_nB (r := s) n hs.1 hs.2 hs2
        split <;> omega
      · have n0 : n ≠ 0 := fun e => h (by rw [er, e]; exact fun p _ _ => rfl)
        have i1 : 1 ≤ u_n g n := by
          obtain ⟨k, rfl⟩ := Nat.exists_eq_succ_of_ne_zero n0
          exact u_nC k
        rw [if_neg (fun ⟨i, hi, hi2⟩ => h (by
          rw [er]
          exact fun p p0 p1 => ((Classical.not_not.mp (fun z => q2 ⟨i, hi, z⟩)) p p0 p1).trans (hi2 p p0 p1)))]
        omega
theorem y_aT {K : Int → Int} (h : ∀ r : Int, 0 ≤ r → r < ((R_K K).length : Int) → al_6 (G_R K) 0 r) : y_a K = 1 := by unfold y_a; rw [if_pos (u_nA _ h)]
theorem y_aF {K : Int → Int} {r : Int} (a : 0 ≤ r) (b : r < ((R_K K).length : Int)) (h : ¬ al_6 (G_R K) 0 r) : y_a K = 0 := by unfold y_a; rw [if_neg (by have := u_nB _ a b h; omega)]
theorem y_a1 {K : Int → Int} (h : ((R_K K).length : Int) ≤ 1) : y_a K = 1 := by unfold y_a; rw [if_pos (by have := (u_nr (g := G_R K) (R_K K).length).2; omega)]
theorem y_a2 {K : Int → Int} : y_a K = 0 ∨ y_a K = 1 := by unfold y_a; split <;> simp
theorem b_lo0 : ∀ (x : Fin 64) (q p : Fin 6), cw_iand (cw_ishr (cw_iand (x.val : Int) (cw_ixor (cw_ishl 1 (q.val : Int)) (-1))) (p.val : Int)) 1 = (if p.val = q.val then 0 else cw_iand (cw_ishr (x.val : Int) (p.val : Int)) 1) ∧ cw_iand (cw_ishr (cw_ior (x.val : Int) (cw_ishl 1 (q.val : Int))) (p.val : Int)) 1 = (if p.val = q.val then 1 else cw_iand (cw_ishr (x.val : Int) (p.val : Int)) 1) ∧ (0 ≤ cw_ior (x.val : Int) (cw_ishl 1 (q.val : Int)) ∧ cw_ior (x.val : Int) (cw_ishl 1 (q.val : Int)) < 64) := by decide +kernel
theorem m_f6 {x : Int} (h : 0 ≤ x ∧ x < 6) : ∃ a : Fin 6, x = (a.val : Int) := ⟨⟨x.toNat, by omega⟩, by show x = (x.toNat : Int); omega⟩
theorem b_lo {x q p : Int} (hx : 0 ≤ x ∧ x < 64) (hq : 0 ≤ q ∧ q < 6) (hp : 0 ≤ p ∧ p < 6) : cw_iand (cw_ishr (cw_iand x (cw_ixor (cw_ishl 1 q) (-1))) p) 1 = if p = q then 0 else cw_iand (cw_ishr x p) 1 := by
  obtain ⟨a, rfl⟩ := m_f64 hx
  obtain ⟨b, rfl⟩ := m_f6 hq
  obtain ⟨c, rfl⟩ := m_f6 hp
  rw [(b_lo0 a b c).1]
  by_cases e : c.val = b.val
  · rw [if_pos e, if_pos (by omega)]
  · rw [if_neg e, if_neg (by omega)]
theorem b_hi {x q p : Int} (hx : 0 ≤ x ∧ x < 64) (hq : 0 ≤ q ∧ q < 6) (hp : 0 ≤ p ∧ p < 6) : cw_iand (cw_ishr (cw_ior x (cw_ishl 1 q)) p) 1 = if p = q then 1 else cw_iand (cw_ishr x p) 1 := by
  obtain ⟨a, rfl⟩ := m_f64 hx
  obtain ⟨b, rfl⟩ := m_f6 hq
  obtain ⟨c, rfl⟩ := m_f6 hp
  rw [(b_lo0 a b c).2.1]
  by_cases e : c.val = b.val
  · rw [if_pos e, if_pos (by omega)]
  · rw [if_neg e, if_neg (by omega)]
theorem b_hr {x q : Int} (hx : 0 ≤ x ∧ x < 64) (hq : 0 ≤ q ∧ q < 6) : 0 ≤ cw_ior x (cw_ishl 1 q) ∧ cw_ior x (cw_ishl 1 q) < 64 := by
  obtain ⟨a, rfl⟩ := m_f64 hx
  obtain ⟨b, rfl⟩ := m_f6 hq
  exact (b_lo0 a b 0).2.2
theorem y_K6 {K : Int → Int} {x p : Int} (hp : 0 ≤ p ∧ p < 6) : y_K K x (12 + p) = if p = y_nx x % 6 then (if y_nx (y_nx x) % 3 = 2 then K (12 + p) else y_nx (y_nx x) % 3) else K (12 + p) := by
  unfold y_K
  rw [cw_up_ne (by omega)]
  by_cases e : p = y_nx x % 6
  · rw [if_pos e, ← e, cw_up_eq]
  · rw [if_neg e, cw_up_ne (by omega)]
/-- who lives, as bits -/
def b_L (K : Int → Int) (lv : Int) : Prop := (0 ≤ lv ∧ lv < 64) ∧ ∀ p, 0 ≤ p → p < 6 → cw_iand (cw_ishr lv p) 1 = K (12 + p)
theorem y_b0 {K : Int → Int} {x lv : Int} (h : b_L K lv) (hx : 0 ≤ x) (e : y_nx (y_nx x) % 3 = 0) : b_L (y_K K x) (cw_iand lv (cw_ixor (cw_ishl 1 (y_nx x % 6)) (-1))) := by
  have r := y_nr hx
  refine ⟨m_xr h.1 (by omega), fun p a b => ?_⟩
  rw [b_lo h.1 (by omega) ⟨a, b⟩, y_K6 ⟨a, b⟩, h.2 p a b, e]
  rfl
theorem y_b1 {K : Int → Int} {x lv : Int} (h : b_L K lv) (hx : 0 ≤ x) (e : y_nx (y_nx x) % 3 = 1) : b_L (y_K K x) (cw_ior lv (cw_ishl 1 (y_nx x % 6))) := by
  have r := y_nr hx
  refine ⟨b_hr h.1 (by omega), fun p a b => ?_⟩
  rw [b_hi h.1 (by omega) ⟨a, b⟩, y_K6 ⟨a, b⟩, h.2 p a b, e]
  rfl
theorem y_b2 {K : Int → Int} {x lv : Int} (h : b_L K lv) (hx : 0 ≤ x) (e : ¬ y_nx (y_nx x) % 3 = 0) (e2 : ¬ y_nx (y_nx x) % 3 = 1) : b_L (y_K K x) lv := by
  have r := y_nr (y_nr hx).1
  refine ⟨h.1, fun p a b => ?_⟩
  rw [y_K6 ⟨a, b⟩, h.2 p a b, if_pos (show y_nx (y_nx x) % 3 = 2 by omega)]
  split <;> rfl
theorem K_oy {K K' : Int → Int} {x : Int} (h : K_o K K') (hx : 0 ≤ x) : K_o K (y_K K' x) := fun i a b => by
  have r := y_nr hx
  unfold y_K
  rw [cw_up_ne (by omega), cw_up_ne (by omega)]
  exact h i a b
theorem y_K50 {K : Int → Int} {x : Int} (hx : 0 ≤ x) : y_K K x 50 = K 50 := by
  have r := y_nr hx
  unfold y_K
  rw [cw_up_ne (by omega), cw_up_ne (by omega)]
theorem y_K18 {K : Int → Int} {x : Int} : y_K K x 18 = K 18 + 1 := cw_up_eq
theorem C_draw {d : Nat} {m : cw_M} {Q : Option cw_V → cw_M → Prop} {x : Int} (hm : la_ok m) (hx : 0 ≤ x ∧ x ≤ 1000003) (h : Q (some (vi (y_nx x))) m) : cw_C d k_C_draw [vi x] m Q := by
  have e : Int.tmod (x * 1103 + 12345) 1000003 = y_nx x := by unfold y_nx; rw [Int.mul_comm]
  have b := y_nr hx.1
  refine la_go_C hm 13 [] ?_
  refine And.intro (show -9223372036854775808 ≤ x * 1103 ∧ x * 1103 < 9223372036854775808 by omega) ?_
  refine And.intro (show -9223372036854775808 ≤ (x * 1103) + 12345 ∧ (x * 1103) + 12345 < 9223372036854775808 by omega) ?_
  refine And.intro (show (1000003 : Int) ≠ 0 by omega) ?_
  refine And.intro (show -2147483648 ≤ Int.tmod ((x * 1103) + 12345) 1000003 ∧ Int.tmod ((x * 1103) + 12345) 1000003 < 2147483648 by rw [e]; omega) ?_
  show Q (some (vi (Int.tmod ((x * 1103) + 12345) 1000003))) (m)
  rw [e]
  exact h
theorem C_alike72 {d : Nat} {X Y : cw_M} {Q : Option cw_V → cw_M → Prop} {K K' : Int → Int} {yr lv r0 : Int} (hr0 : 0 ≤ r0 ∧ r0 < ((R_K K).length : Int)) (hRL : ((R_K K).length : Int) ≤ 132) (hY : la_ok Y) (hP : ∀ c, c ∉ P_L → Y c = X c) (hc : P_c Y K') (hw : ∀ p, 0 ≤ p → p < 6 → Y x_paper_would_ p = (G_R K') r0 p) (hf : r0 ≠ 0 → ∀ p, 0 ≤ p → p < 6 → Y x_paper_first_ p = (G_R K') 0 p) (ex : ∀ Y, la_ok Y → (∀ c, c ∉ P_L → Y c = X c) → P_c Y K' → (∀ p, 0 ≤ p → p < 6 → Y x_paper_first_ p = (G_R K') 0 p) → al_6 (G_R K') 0 r0 → ∀ w5 : cw_V, cw_R (d + 12) k_C_allGiveAlike 46 [vr x_, vi yr, vi lv, vi ((R_K K).length : Int), vi (r0 + 1), w5] [] Y Q) (no : ∀ Y, la_ok Y → (∀ c, c ∉ P_L → Y c = X c) → P_c Y K' → ¬ al_6 (G_R K') 0 r0 → Q (some (vi 0)) Y) : cw_R (d + 12) k_C_allGiveAlike 72 [vr x_, vi yr, vi lv, vi ((R_K K).length : Int), vi r0, vi 0] [] Y Q := by
  have lp : ∀ (r : Nat) (k : Int) (Y : cw_M), 6 < k + r → (0 ≤ k ∧ k ≤ 6) → (la_ok Y) → (∀ c, c ∉ P_L → Y c = X c) → (P_c Y K') → (∀ p, 0 ≤ p → p < 6 → Y x_paper_would_ p = (G_R K') r0 p) → (r0 = 0 → ∀ p, 0 ≤ p → p < k → Y x_paper_first_ p = (G_R K') 0 p) → (r0 ≠ 0 → (∀ p, 0 ≤ p → p < 6 → Y x_paper_first_ p = (G_R K') 0 p) ∧ ∀ p, 0 ≤ p → p < k → (G_R K') 0 p = (G_R K') r0 p) → cw_R (d + 12) k_C_allGiveAlike 72 [vr x_, vi yr, vi lv, vi ((R_K K).length : Int), vi r0, vi k] [] Y Q := by
    intro r
    induction r with
    | zero =>
      intro k Y hr hk hY hP hc hw hf0 hf1
      omega
    | succ r ih =>
      intro k Y hr hk hY hP hc hw hf0 hf1
      refine la_go_R hY 21 [46, 72] ?_
      refine And.intro (fun (c21 : 6 ≤ k) => ?_) (fun (c21 : ¬ (6 ≤ k)) => ?_)
      · refine And.intro (show -2147483648 ≤ r0 + 1 ∧ r0 + 1 < 2147483648 by omega) ?_
        show cw_R _ _ 46 [vr x_, vi yr, vi lv, vi ((R_K K).length : Int), vi (r0 + 1), vi k] [] (Y) _
        refine ex Y hY hP hc (fun p a b => ?_) (fun p a b => ?_) _
        · by_cases z : r0 = 0
          · exact hf0 z p a (by omega)
          · exact (hf1 z).1 p a b
        · by_cases z : r0 = 0
          · rw [z]
          · exact (hf1 z).2 p a (by omega)
      · refine And.intro (fun (c22 : r0 ≠ 0) => ?_) (fun (c22 : ¬ (r0 ≠ 0)) => ?_)
        · refine And.intro (show 0 ≤ k ∧ k < 6 by omega) ?_
          refine And.intro (show 0 ≤ k ∧ k < 6 by omega) ?_
          refine And.intro (fun (c23 : Y x_paper_first_ k = Y x_paper_would_ k) => ?_) (fun (c23 : ¬ (Y x_paper_first_ k = Y x_paper_would_ k)) => ?_)
          · refine And.intro (show -2147483648 ≤ k + 1 ∧ k + 1 < 2147483648 by omega) ?_
            show cw_R _ _ 72 [vr x_, vi yr, vi lv, vi ((R_K K).length : Int), vi r0, vi (k + 1)] [] (Y) _
            refine ih (k + 1) Y (by omega) (by omega) hY hP hc hw (fun z => absurd z (by omega)) (fun z => ⟨(hf1 z).1, fun p a b => ?_⟩)
            by_cases e : p = k
            · rw [e, ← (hf1 z).1 k hk.1 (by omega), ← hw k hk.1 (by omega)]; omega
            · exact (hf1 z).2 p a (by omega)
          · refine And.intro (Or.inl rfl) ?_
            show Q (some (vi 0)) (Y)
            refine no Y hY hP hc (fun z => ?_)
            have f := (hf1 (by omega)).1 k hk.1 (by omega)
            have w := hw k hk.1 (by omega)
            have q := z k hk.1 (by omega)
            omega
        · refine And.intro (show 0 ≤ k ∧ k < 6 by omega) ?_
          refine And.intro (show 0 ≤ k ∧ k < 6 by omega) ?_
          have hm24 : la_ok (cw_put Y x_paper_first_ k (Y x_paper_would_ k)) := la_put hY (by decide) (Or.inr (by decide))
          refine And.intro (show -2147483648 ≤ k + 1 ∧ k + 1 < 2147483648 by omega) ?_
          show cw_R _ _ 72 [vr x_, vi yr, vi lv, vi ((R_K K).length : Int), vi r0, vi (k + 1)] [] (cw_put Y x_paper_first_ k (Y x_paper_would_ k)) _
          have nf : ∀ c, c ≠ x_paper_first_ → cw_put Y x_paper_first_ k (Y x_paper_would_ k) c = Y c := fun c a => cw_put_ne a
          refine ih (k + 1) _ (by omega) (by omega) hm24 (fun c a => ?_) (P_ce hc (nf _ (by decide)) (nf _ (by decide)) (fun c a => nf c (fun e => by rw [e] at a; exact absurd a (by unfold h_c; decide)))) (fun p a b => ?_) (fun _ p a b => ?_) (fun z => absurd (by omega) z)
          · rw [nf c (U_n a (by decide))]; exact hP c a
          · rw [nf _ (by decide)]; exact hw p a b
          · by_cases e : p = k
            · rw [e, cw_put_eq, hw k hk.1 (by omega), show r0 = 0 by omega]
            · rw [cw_put_off e]; exact hf0 (by omega) p a (by omega)
  exact lp 7 0 Y (by omega) (by omega) hY hP hc hw (fun _ p a b => by omega) (fun z => ⟨hf z, fun p a b => by omega⟩)
theorem C_alike46 {d : Nat} {X Y : cw_M} {Q : Option cw_V → cw_M → Prop} {K K' : Int → Int} (hK : K_r K) (hWX : W_r X K) (hE : K_o K K') (hK' : K_r K') {yr lv : Int} {w5 : cw_V} (h18 : X x_ 18 = 0) (hc1 : S_c X K) (hY : la_ok Y) (hP : ∀ c, c ∉ P_L → Y c = X c) (hc : P_c Y K') (ys : ∀ Y, la_ok Y → (∀ c, c ∉ P_L → Y c = X c) → P_c Y K' → y_a K' = 1 → Q (some (vi 1)) Y) (no : ∀ Y, la_ok Y → (∀ c, c ∉ P_L → Y c = X c) → P_c Y K' → y_a K' = 0 → Q (some (vi 0)) Y) : cw_R (d + 12) k_C_allGiveAlike 46 [vr x_, vi yr, vi lv, vi ((R_K K).length : Int), vi 0, w5] [] Y Q := by
  have rk := R_Kr hK
  have lp : ∀ (r : Nat) (r0 : Int) (Y : cw_M) (w5 : cw_V), ((R_K K).length : Int) < r0 + r → (0 ≤ r0 ∧ r0 ≤ ((R_K K).length : Int)) → (la_ok Y) → (∀ c, c ∉ P_L → Y c = X c) → (P_c Y K') → (r0 ≠ 0 → ∀ p, 0 ≤ p → p < 6 → Y x_paper_first_ p = (G_R K') 0 p) → (∀ i, 0 ≤ i → i < r0 → al_6 (G_R K') 0 i) → cw_R (d + 12) k_C_allGiveAlike 46 [vr x_, vi yr, vi lv, vi ((R_K K).length : Int), vi r0, w5] [] Y Q := by
    intro r
    induction r with
    | zero =>
      intro r0 Y w5 hr hr0 hY hP hc hf ha
      omega
    | succ r ih =>
      intro r0 Y w5 hr hr0 hY hP hc hf ha
      have hWY := W_rV hWX (P_LV hP)
      have hSY : S_c Y K := S_ce hc1 (hP _ (by decide)) (hP _ (by decide)) (hP _ (by decide)) (hP _ (by decide)) (by rw [hP _ (by decide)])
      have hlY : Y x_forest_list_ = X x_forest_list_ := hP _ (by decide)
      have hlX := (hc1.2.2 h18).2.2 r0 hr0.1
      have tt := rk.2 r0 hr0.1
      refine la_go_R hY 16 [46, 72] ?_
      refine And.intro (fun (c21 : ((R_K K).length : Int) ≤ r0) => ?_) (fun (c21 : ¬ (((R_K K).length : Int) ≤ r0)) => ?_)
      · refine And.intro (Or.inr rfl) ?_
        show Q (some (vi 1)) (Y)
        exact ys Y hY hP hc (y_aT (fun i a b => ha i a (by rw [K_oR hE hK] at b; omega)))
      · refine And.intro (show 0 ≤ r0 ∧ r0 < 132 by omega) ?_
        show cw_C _ _ [vr x_paper_, vi (Y x_forest_list_ r0)] (Y) _
        refine Pa_divP (K' := K') hY hK hWY hE hK' hSY (by rw [hP _ (by decide)]; exact h18) hc (by rw [hlY, hlX (by omega)]; exact (tt (by omega)).1) (fun (Z : cw_M) (hZ2 : la_ok Z) hPZ hcZ hfZ hwZ => ⟨hZ2, ?_⟩)
        rw [hlY, hlX (by omega)] at hwZ
        show cw_R _ _ 72 [vr x_, vi yr, vi lv, vi ((R_K K).length : Int), vi r0, vi 0] [] (Z) _
        refine C_alike72 (X := X) (K' := K') (by omega) rk.1 hZ2 (fun c q => by rw [hPZ c q, hP c q]) hcZ (fun p a b => ?_) (fun z p a b => ?_) (fun Y2 hY2 hP2 hc2 hf2 ha2 w5 => ?_) (fun Y2 hY2 hP2 hc2 ha2 => ?_)
        · rw [hwZ p a b]; unfold G_R; rw [K_oR hE hK]
        · rw [hfZ]; exact hf z p a b
        · exact ih (r0 + 1) Y2 w5 (by omega) (by omega) hY2 hP2 hc2 (fun _ => hf2) (fun i a b => by
            by_cases e : i = r0
            · rw [e]; exact ha2
            · exact ha i a (by omega))
        · exact no Y2 hY2 hP2 hc2 (y_aF (r := r0) (by omega) (by rw [K_oR hE hK]; omega) ha2)
  exact lp ((R_K K).length + 1) 0 Y w5 (by omega) (by omega) hY hP hc (fun z => absurd rfl z) (fun i a b => by omega)
theorem C_alike {d : Nat} {m : cw_M} {Q : Option cw_V → cw_M → Prop} {K : Int → Int} (hm : la_ok m) (hT : ∀ j, 0 ≤ j → j < 7 → m cw_TREES j = t_c j) (hK : K_r K) (hW : W_r m K) (hZ : Z_c m K) {K' : Int → Int} {yr lv : Int} (hE : K_o K K') (hK' : K_r K') (hfc : K' 50 = K 50) (hyr : yr = K' 18) (hlv : b_L K' lv) (h : ∀ M, la_ok M → V_s m M → Z_c M K → Q (some (vi (y_a K'))) M) : cw_C (d + 12) k_C_allGiveAlike [vr x_, vi yr, vi lv] m Q := by
  refine la_go_C hm 26 [46] ?_
  show cw_C _ _ [vr x_] (m) _
  refine C_sift hm hT hK.1 hW hZ.1 (fun (X : cw_M) (hX : la_ok X) (hS1 : S_s m X) (h18 : X x_ 18 = 0) (hc1 : S_c X K) => ⟨hX, ?_⟩)
  have hZX := Z_cS hZ hS1 hc1
  have hV := S_sV hS1
  have hWX := W_rV hW hV
  refine And.intro (fun (c21 : 1 < ((R_K K).length : Int)) => ?_) (fun (c21 : ¬ (1 < ((R_K K).length : Int))) => ?_)
  · show cw_C _ _ [vr x_will_, vi (X x_will_ 13)] (X) _
    refine Wi_lawOf hX hWX hK.2.2.2.2.2.2.2.2.2.2.2.1 (by rw [hWX.2.2.2.2.2.2.2.2.2.2.2.1]; exact hK.2.2.2.2.2.2.2.2.2.2.2.2.1) (fun (T : Int) hTf _ => ⟨hX, ?_⟩)
    rw [hWX.2.2.2.2.2.2.2.2.2.2.2.1, ← K_ol hE hK.2.2.2.2.2.2.2.2.2.2.2.2.1.1, ← hfc] at hTf
    show cw_C _ _ [vr x_paper_, vr x_will_, vr x_forest_, vr T, vi yr, vi lv] (X) _
    refine Pa_takeK (K' := K') hX hK hWX hE hK' (fun i q => (hZX.2.1 i q).2) hTf hyr hlv (fun (Y : cw_M) (hY : la_ok Y) hPY hcY => ⟨hY, ?_⟩)
    show cw_R _ _ 46 [vr x_, vi yr, vi lv, vi ((R_K K).length : Int), vi 0, none] [] (Y) _
    exact C_alike46 hK hWX hE hK' h18 hc1 hY hPY hcY (fun Y hY hP hc e => by rw [← e]; exact h Y hY (V_st hV (P_LV hP)) (Z_ce hZX hP (c_00 hc.2.2.1))) (fun Y hY hP hc e => by rw [← e]; exact h Y hY (V_st hV (P_LV hP)) (Z_ce hZX hP (c_00 hc.2.2.1)))
  · refine And.intro (Or.inr rfl) ?_
    show Q (some (vi 1)) (X)
    have e : y_a K' = 1 := y_a1 (by rw [K_oR hE hK]; omega)
    rw [← e]
    exact h X hX hV hZX
theorem C_years56 {d : Nat} {m : cw_M} {Q : Option cw_V → cw_M → Prop} {K : Int → Int} (hm : la_ok m) (hT : ∀ j, 0 ≤ j → j < 7 → m cw_TREES j = t_c j) (hK : K_r K) (hW : W_r m K) (hZ : Z_c m K) {n sd s0 lv0 yr0 : Int} {R : (Int → Int) × Int} (hc9 : m cw_TERM 0 = 999) (hn : 1 ≤ n ∧ n ≤ 60) (hs0 : 0 ≤ s0 ∧ s0 ≤ 1000003) (hy0 : yr0 = K 18) (hb0 : b_L K lv0) (hR : y_l n.toNat K s0 0 = R) (ex : ∀ (Kk : Int → Int) (lv cl : Int) (X : cw_M) (s yr i : Int) (w8 w9 : cw_V), la_ok X → V_s m X → Z_c X K → b_L Kk lv → (Kk, cl) = R → cw_R (d + 13) k_C_years 150 [vr x_, vi sd, vi n, vi s, vi lv, vi yr, vi cl, vi i, w8, w9] [] X Q) : cw_R (d + 13) k_C_years 56 [vr x_, vi sd, vi n, vi s0, vi lv0, vi yr0, vi 0, vi 0, none, none] [] m Q := by
  have lp : ∀ (r : Nat) (i s lv yr cl : Int) (Kk : Int → Int) (X : cw_M) (w8 w9 : cw_V), n < i + r → (0 ≤ i ∧ i ≤ n) → (0 ≤ s ∧ s ≤ 1000003) → (0 ≤ cl ∧ cl ≤ i) → (K_r Kk) → (K_o K Kk) → (Kk 50 = K 50) → (yr = Kk 18) → (b_L Kk lv) → (la_ok X) → (V_s m X) → (Z_c X K) → (y_l (n - i).toNat Kk s cl = R) → cw_R (d + 13) k_C_years 56 [vr x_, vi sd, vi n, vi s, vi lv, vi yr, vi cl, vi i, w8, w9] [] X Q := by
    intro r
    induction r with
    | zero =>
      intro i s lv yr cl Kk X w8 w9 hr hi hs hcl hKk hE h50 hyr hb hX hV hZX hR
      omega
    | succ r ih =>
      intro i s lv yr cl Kk X w8 w9 hr hi hs hcl hKk hE h50 hyr hb hX hV hZX hR
      have k18 := hKk.2.2.2.2.1
      have hTM : X cw_TERM 0 = 999 := by rw [hV.1 _ (by decide) (by decide)]; exact hc9
      refine la_go_R hX 45 [56, 150] ?_
      refine And.intro (fun (c21 : n ≤ i) => ?_) (fun (c21 : ¬ (n ≤ i)) => ?_)
      · show cw_R _ _ 150 [vr x_, vi sd, vi n, vi s, vi lv, vi yr, vi cl, vi i, w8, w9] [] (X) _
        exact ex Kk lv cl X _ _ _ _ _ hX hV hZX hb (by rw [← hR]; first | rw [y_lh (by omega)] | (rw [show (n - i).toNat = 0 by omega]; rfl))
      · refine And.intro (show 0 ≤ 0 ∧ 0 < 4 by omega) ?_
        refine And.intro (fun (c22 : X cw_TERM 0 ≤ yr) => ?_) (fun (c22 : ¬ (X cw_TERM 0 ≤ yr)) => ?_)
        · show cw_R _ _ 150 [vr x_, vi sd, vi n, vi s, vi lv, vi yr, vi cl, vi i, w8, w9] [] (X) _
          exact ex Kk lv cl X _ _ _ _ _ hX hV hZX hb (by rw [← hR]; first | rw [y_lh (by omega)] | (rw [show (n - i).toNat = 0 by omega]; rfl))
        · show cw_C _ _ [vi s] (X) _
          refine C_draw hX (by omega) ⟨hX, ?_⟩
          have n23 := y_nr (x := s) (by omega)
          refine And.intro (show 0 ≤ y_nx s ∧ 0 < 6 by omega) ?_
          show cw_C _ _ [vi (y_nx s)] (X) _
          refine C_draw hX (by omega) ⟨hX, ?_⟩
          have n24 := y_nr (x := y_nx s) (by omega)
          refine And.intro (show 0 ≤ y_nx (y_nx s) ∧ 0 < 3 by omega) ?_
          refine And.intro (fun (c25 : (y_nx (y_nx s)) % 3 ≠ 0) => ?_) (fun (c25 : ¬ ((y_nx (y_nx s)) % 3 ≠ 0)) => ?_)
          · refine And.intro (fun (c26 : (y_nx (y_nx s)) % 3 ≠ 1) => ?_) (fun (c26 : ¬ ((y_nx (y_nx s)) % 3 ≠ 1)) => ?_)
            · refine And.intro (show -2147483648 ≤ yr + 1 ∧ yr + 1 < 2147483648 by omega) ?_
              show cw_C _ _ [vr x_, vi (yr + 1), vi lv] (X) _
              refine C_alike (K' := y_K Kk s) hX (fun j a b => by rw [hV.1 _ (by decide) (by decide)]; exact hT j a b) hK (W_rV hW hV) hZX (K_oy hE hs.1) (y_Kr hKk hs.1 (by omega)) (by rw [y_K50 hs.1]; exact h50) (by rw [y_K18, hyr]) (y_b2 hb hs.1 (by omega) (by omega)) (fun (Y : cw_M) (hY : la_ok Y) (hVY : V_s X Y) (hZY : Z_c Y K) => ⟨hY, ?_⟩)
              have ya := y_a2 (K := y_K Kk s)
              refine And.intro (fun (c27 : y_a (y_K Kk s) = 0) => ?_) (fun (c27 : ¬ (y_a (y_K Kk s) = 0)) => ?_)
              · refine And.intro (show -2147483648 ≤ i + 1 ∧ i + 1 < 2147483648 by omega) ?_
                show cw_R _ _ 56 [vr x_, vi sd, vi n, vi (y_nx (y_nx s)), vi lv, vi (yr + 1), vi cl, vi (i + 1), vi ((y_nx s) % 6), vi ((y_nx (y_nx s)) % 3)] [] (Y) _
                rw [show (n - i).toNat = (n - (i + 1)).toNat + 1 by omega, y_ls (by omega)] at hR
                rw [show cl + y_a (y_K Kk s) = cl by omega] at hR
                exact ih (i + 1) _ _ _ _ _ Y _ _ (by omega) (by omega) (by omega) (by omega) (y_Kr hKk hs.1 (by omega)) (K_oy hE hs.1) (by rw [y_K50 hs.1]; exact h50) (by rw [y_K18, hyr]) (y_b2 hb hs.1 (by omega) (by omega)) hY (V_st hV hVY) hZY hR
              · refine And.intro (show -2147483648 ≤ cl + 1 ∧ cl + 1 < 2147483648 by omega) ?_
                refine And.intro (show -2147483648 ≤ i + 1 ∧ i + 1 < 2147483648 by omega) ?_
                show cw_R _ _ 56 [vr x_, vi sd, vi n, vi (y_nx (y_nx s)), vi lv, vi (yr + 1), vi (cl + 1), vi (i + 1), vi ((y_nx s) % 6), vi ((y_nx (y_nx s)) % 3)] [] (Y) _
                rw [show (n - i).toNat = (n - (i + 1)).toNat + 1 by omega, y_ls (by omega)] at hR
                rw [show cl + y_a (y_K Kk s) = cl + 1 by omega] at hR
                exact ih (i + 1) _ _ _ _ _ Y _ _ (by omega) (by omega) (by omega) (by omega) (y_Kr hKk hs.1 (by omega)) (K_oy hE hs.1) (by rw [y_K50 hs.1]; exact h50) (by rw [y_K18, hyr]) (y_b2 hb hs.1 (by omega) (by omega)) hY (V_st hV hVY) hZY hR
            · refine And.intro (show -2147483648 ≤ yr + 1 ∧ yr + 1 < 2147483648 by omega) ?_
              show cw_C _ _ [vr x_, vi (yr + 1), vi (cw_ior lv (cw_ishl 1 ((y_nx s) % 6)))] (X) _
              refine C_alike (K' := y_K Kk s) hX (fun j a b => by rw [hV.1 _ (by decide) (by decide)]; exact hT j a b) hK (W_rV hW hV) hZX (K_oy hE hs.1) (y_Kr hKk hs.1 (by omega)) (by rw [y_K50 hs.1]; exact h50) (by rw [y_K18, hyr]) (y_b1 hb hs.1 (by omega)) (fun (Y : cw_M) (hY : la_ok Y) (hVY : V_s X Y) (hZY : Z_c Y K) => ⟨hY, ?_⟩)
              have ya := y_a2 (K := y_K Kk s)
              refine And.intro (fun (c28 : y_a (y_K Kk s) = 0) => ?_) (fun (c28 : ¬ (y_a (y_K Kk s) = 0)) => ?_)
              · refine And.intro (show -2147483648 ≤ i + 1 ∧ i + 1 < 2147483648 by omega) ?_
                show cw_R _ _ 56 [vr x_, vi sd, vi n, vi (y_nx (y_nx s)), vi (cw_ior lv (cw_ishl 1 ((y_nx s) % 6))), vi (yr + 1), vi cl, vi (i + 1), vi ((y_nx s) % 6), vi ((y_nx (y_nx s)) % 3)] [] (Y) _
                rw [show (n - i).toNat = (n - (i + 1)).toNat + 1 by omega, y_ls (by omega)] at hR
                rw [show cl + y_a (y_K Kk s) = cl by omega] at hR
                exact ih (i + 1) _ _ _ _ _ Y _ _ (by omega) (by omega) (by omega) (by omega) (y_Kr hKk hs.1 (by omega)) (K_oy hE hs.1) (by rw [y_K50 hs.1]; exact h50) (by rw [y_K18, hyr]) (y_b1 hb hs.1 (by omega)) hY (V_st hV hVY) hZY hR
              · refine And.intro (show -2147483648 ≤ cl + 1 ∧ cl + 1 < 2147483648 by omega) ?_
                refine And.intro (show -2147483648 ≤ i + 1 ∧ i + 1 < 2147483648 by omega) ?_
                show cw_R _ _ 56 [vr x_, vi sd, vi n, vi (y_nx (y_nx s)), vi (cw_ior lv (cw_ishl 1 ((y_nx s) % 6))), vi (yr + 1), vi (cl + 1), vi (i + 1), vi ((y_nx s) % 6), vi ((y_nx (y_nx s)) % 3)] [] (Y) _
                rw [show (n - i).toNat = (n - (i + 1)).toNat + 1 by omega, y_ls (by omega)] at hR
                rw [show cl + y_a (y_K Kk s) = cl + 1 by omega] at hR
                exact ih (i + 1) _ _ _ _ _ Y _ _ (by omega) (by omega) (by omega) (by omega) (y_Kr hKk hs.1 (by omega)) (K_oy hE hs.1) (by rw [y_K50 hs.1]; exact h50) (by rw [y_K18, hyr]) (y_b1 hb hs.1 (by omega)) hY (V_st hV hVY) hZY hR
          · refine And.intro (show -2147483648 ≤ yr + 1 ∧ yr + 1 < 2147483648 by omega) ?_
            show cw_C _ _ [vr x_, vi (yr + 1), vi (cw_iand lv (cw_ixor (cw_ishl 1 ((y_nx s) % 6)) (-1)))] (X) _
            refine C_alike (K' := y_K Kk s) hX (fun j a b => by rw [hV.1 _ (by decide) (by decide)]; exact hT j a b) hK (W_rV hW hV) hZX (K_oy hE hs.1) (y_Kr hKk hs.1 (by omega)) (by rw [y_K50 hs.1]; exact h50) (by rw [y_K18, hyr]) (y_b0 hb hs.1 (by omega)) (fun (Y : cw_M) (hY : la_ok Y) (hVY : V_s X Y) (hZY : Z_c Y K) => ⟨hY, ?_⟩)
            have ya := y_a2 (K := y_K Kk s)
            refine And.intro (fun (c29 : y_a (y_K Kk s) = 0) => ?_) (fun (c29 : ¬ (y_a (y_K Kk s) = 0)) => ?_)
            · refine And.intro (show -2147483648 ≤ i + 1 ∧ i + 1 < 2147483648 by omega) ?_
              show cw_R _ _ 56 [vr x_, vi sd, vi n, vi (y_nx (y_nx s)), vi (cw_iand lv (cw_ixor (cw_ishl 1 ((y_nx s) % 6)) (-1))), vi (yr + 1), vi cl, vi (i + 1), vi ((y_nx s) % 6), vi ((y_nx (y_nx s)) % 3)] [] (Y) _
              rw [show (n - i).toNat = (n - (i + 1)).toNat + 1 by omega, y_ls (by omega)] at hR
              rw [show cl + y_a (y_K Kk s) = cl by omega] at hR
              exact ih (i + 1) _ _ _ _ _ Y _ _ (by omega) (by omega) (by omega) (by omega) (y_Kr hKk hs.1 (by omega)) (K_oy hE hs.1) (by rw [y_K50 hs.1]; exact h50) (by rw [y_K18, hyr]) (y_b0 hb hs.1 (by omega)) hY (V_st hV hVY) hZY hR
            · refine And.intro (show -2147483648 ≤ cl + 1 ∧ cl + 1 < 2147483648 by omega) ?_
              refine And.intro (show -2147483648 ≤ i + 1 ∧ i + 1 < 2147483648 by omega) ?_
              show cw_R _ _ 56 [vr x_, vi sd, vi n, vi (y_nx (y_nx s)), vi (cw_iand lv (cw_ixor (cw_ishl 1 ((y_nx s) % 6)) (-1))), vi (yr + 1), vi (cl + 1), vi (i + 1), vi ((y_nx s) % 6), vi ((y_nx (y_nx s)) % 3)] [] (Y) _
              rw [show (n - i).toNat = (n - (i + 1)).toNat + 1 by omega, y_ls (by omega)] at hR
              rw [show cl + y_a (y_K Kk s) = cl + 1 by omega] at hR
              exact ih (i + 1) _ _ _ _ _ Y _ _ (by omega) (by omega) (by omega) (by omega) (y_Kr hKk hs.1 (by omega)) (K_oy hE hs.1) (by rw [y_K50 hs.1]; exact h50) (by rw [y_K18, hyr]) (y_b0 hb hs.1 (by omega)) hY (V_st hV hVY) hZY hR
  exact lp (n.toNat + 1) 0 s0 lv0 yr0 0 K m _ _ (by omega) (by omega) hs0 (by omega) hK (fun _ _ _ => rfl) rfl hy0 hb0 hm V_sr hZ (by rw [show (n - 0).toNat = n.toNat by omega]; exact hR)
theorem C_years {d : Nat} {m : cw_M} {Q : Option cw_V → cw_M → Prop} {K : Int → Int} (hm : la_ok m) (hT : ∀ j, 0 ≤ j → j < 7 → m cw_TREES j = t_c j) (hK : K_r K) (hW : W_r m K) (hZ : Z_c m K) {sd n : Int} (hr : c_fb m) (hc9 : m cw_TERM 0 = 999) (h0 : ¬ ((0 ≤ sd ∧ sd ≤ 1000000) ∧ 1 ≤ n ∧ n ≤ 60) → Q (some (vi (-1))) (cr_m m (-1) 0)) (h1 : (0 ≤ sd ∧ sd ≤ 1000000) → (1 ≤ n ∧ n ≤ 60) → ∀ M lv, la_ok M → V_s m M → Z_c M K → b_L (y_l n.toNat K sd 0).1 lv → Q (some (vi (y_l n.toNat K sd 0).2)) (cw_put (cw_put M x_ 17 lv) x_ 16 0)) : cw_C (d + 13) k_C_years [vr x_, vi sd, vi n] m Q := by
  refine la_go_C hm 30 [56] ?_
  refine And.intro (fun (c21 : sd < 0) => ?_) (fun (c21 : ¬ (sd < 0)) => ?_)
  · show cw_C _ _ [vr x_, vi (-1)] (m) _
    refine C_refuse1 hm (hr 0 (by decide) (by decide)) ⟨(cr_ok hm), ?_⟩
    show Q (some (vi (-1))) (cr_m m (-1) 0)
    exact h0 (by omega)
  · refine And.intro (fun (c22 : 1000000 < sd) => ?_) (fun (c22 : ¬ (1000000 < sd)) => ?_)
    · show cw_C _ _ [vr x_, vi (-1)] (m) _
      refine C_refuse1 hm (hr 0 (by decide) (by decide)) ⟨(cr_ok hm), ?_⟩
      show Q (some (vi (-1))) (cr_m m (-1) 0)
      exact h0 (by omega)
    · refine And.intro (fun (c23 : n < 1) => ?_) (fun (c23 : ¬ (n < 1)) => ?_)
      · show cw_C _ _ [vr x_, vi (-1)] (m) _
        refine C_refuse1 hm (hr 0 (by decide) (by decide)) ⟨(cr_ok hm), ?_⟩
        show Q (some (vi (-1))) (cr_m m (-1) 0)
        exact h0 (by omega)
      · refine And.intro (fun (c24 : n ≤ 60) => ?_) (fun (c24 : ¬ (n ≤ 60)) => ?_)
        · refine And.intro (show 0 ≤ 0 ∧ 0 < 4 by omega) ?_
          show cw_R _ _ 56 [vr x_, vi sd, vi n, vi sd, vi (m x_will_ 4), vi (m x_will_terms_ 0), vi 0, vi 0, none, none] [] (m) _
          refine C_years56 (R := y_l n.toNat K sd 0) hm hT hK hW hZ hc9 (by omega) (by omega) hW.2.2.2.2.2.1.1 hW.2.2.2.2.1 rfl (fun Kk lv cl X s yr i w8 w9 hX hV hZX hb hR => ?_)
          have e1 := congrArg Prod.fst hR
          have e2 := congrArg Prod.snd hR
          dsimp only at e1 e2
          refine la_go_R hX 10 [] ?_
          have hm21 : la_ok (cw_put X x_ 17 lv) := la_put hX (by decide) (Or.inl rfl)
          show cw_C _ _ [vr x_, vi cl] (cw_put X x_ 17 lv) _
          refine C_accept hm21 ⟨(la_put hm21 (by decide) (Or.inl rfl)), ?_⟩
          show Q (some (vi cl)) (cw_put (cw_put X x_ 17 lv) x_ 16 0)
          rw [← e2] at h1
          exact h1 (by omega) (by omega) X lv hX hV hZX (by rw [← e1]; exact hb)
        · show cw_C _ _ [vr x_, vi (-1)] (m) _
          refine C_refuse1 hm (hr 0 (by decide) (by decide)) ⟨(cr_ok hm), ?_⟩
          show Q (some (vi (-1))) (cr_m m (-1) 0)
          exact h0 (by omega)
