/-! The reference splits its tape: the loop (wip/whole/tools/m64.py). -/
def K_t (b : Int → Int) (n tk : Int) (cd vl pl : Int → Int) : Prop := ∀ i : Nat, (i : Int) < tk → k_pl b n i < n ∧ cd i = k_cd b n (k_pl b n i) ∧ vl i = k_vl b n (k_pl b n i) ∧ pl i = k_pl b n i
def K_tok (b : Int → Int) (n tk : Int) (cd vl pl : Int → Int) : Prop := (0 ≤ tk ∧ tk ≤ n) ∧ (∀ i : Nat, (i : Int) < tk → k_pl b n i < n) ∧ k_pl b n tk.toNat = n ∧ ∀ i : Nat, (i : Int) ≤ tk → cd i = k_cd b n (k_pl b n i) ∧ vl i = k_vl b n (k_pl b n i) ∧ pl i = k_pl b n i
theorem K_ts {b : Int → Int} {n tk k : Int} {cd vl pl : Int → Int} (h : K_t b n tk cd vl pl) (h0 : 0 ≤ tk) (hk : k_pl b n tk.toNat = k) (hn : k < n) : K_t b n (tk + 1) (cw_up cd tk (k_cd b n k)) (cw_up vl tk (k_vl b n k)) (cw_up pl tk k) := by
  intro i hi
  by_cases e : (i : Int) = tk
  · rw [e, cw_up_eq, cw_up_eq, cw_up_eq, show i = tk.toNat by omega, hk]
    exact ⟨hn, rfl, rfl, rfl⟩
  · rw [cw_up_ne e, cw_up_ne e, cw_up_ne e]
    exact h i (by omega)
theorem K_te {b : Int → Int} {n tk : Int} {cd vl pl : Int → Int} (h : K_t b n tk cd vl pl) (h0 : 0 ≤ tk) (hk : k_pl b n tk.toNat = n) (hn : 0 ≤ n) (htn : tk ≤ n) : K_tok b n tk (cw_up cd tk 0) (cw_up vl tk 0) (cw_up pl tk n) := by
  refine ⟨⟨h0, htn⟩, fun i hi => (h i hi).1, hk, fun i hi => ?_⟩
  by_cases e : (i : Int) = tk
  · rw [e, cw_up_eq, cw_up_eq, cw_up_eq, show i = tk.toNat by omega, hk]
    unfold k_cd k_vl
    rw [if_neg (by omega), if_neg (by omega)]
    exact ⟨rfl, rfl, rfl⟩
  · rw [cw_up_ne e, cw_up_ne e, cw_up_ne e]
    exact (h i (by omega)).2
theorem M_splits0 {d : Nat} {m : cw_M} {Q : Option cw_V → cw_M → Prop} (hm0 : la_ok m) (htab : k_tab (m m_words_) 0 k_WL) {b : Int → Int} {n : Int} (hn : 0 ≤ n ∧ n ≤ 400) (hb : ∀ i, 0 ≤ i → i < n → (0 ≤ b i ∧ b i ≤ 255) ∧ m m_tape_ i = cw_i2b (b i)) {cd vl pl : Int → Int} {tk : Int} (hQ : ∀ cd vl pl tk, K_tok b n tk cd vl pl → Q none (s_m m cd vl pl tk)) : cw_C (d + 1) k_M_splits [vr m_, vi n] (s_m m cd vl pl tk) Q := by
  have l7 : ∀ (r : Nat) (k : Int) (cd vl pl : Int → Int) (tk : Int) (w3 w4 w5 : cw_V), n < k + r → (0 ≤ k ∧ k ≤ n) → (0 ≤ tk ∧ tk ≤ k) → (K_t b n tk cd vl pl) → (k_bl b n k = k_pl b n tk.toNat) → cw_R (d + 1) k_M_splits 7 [vr m_, vi n, vi k, w3, w4, w5] [] (s_m m cd vl pl tk) Q := by
    intro r
    induction r with
    | zero =>
      intro k cd vl pl tk w3 w4 w5 hr hk htk hT hbl
      omega
    | succ r ih7 =>
      intro k cd vl pl tk w3 w4 w5 hr hk htk hT hbl
      have hm : la_ok (s_m m cd vl pl tk) := s_m_ok hm0
      by_cases hkn : ¬ k < n
      · refine la_go_R hm 25 [7, 43, 75, 100] ?_
        refine br_t (show n ≤ k by omega) ?_
        refine And.intro (show 0 ≤ tk ∧ tk < 401 by omega) ?_
        have hm1 : la_ok (cw_put (s_m m cd vl pl tk) m_placed_ tk n) := la_put hm (by decide) (Or.inr (by decide))
        refine And.intro (show 0 ≤ tk ∧ tk < 401 by omega) ?_
        have hm2 : la_ok (cw_put (cw_put (s_m m cd vl pl tk) m_placed_ tk n) m_code_ tk 0) := la_put hm1 (by decide) (Or.inr (by decide))
        refine And.intro (show 0 ≤ tk ∧ tk < 401 by omega) ?_
        have hm3 : la_ok (cw_put (cw_put (cw_put (s_m m cd vl pl tk) m_placed_ tk n) m_code_ tk 0) m_value_ tk 0) := la_put hm2 (by decide) (Or.inr (by decide))
        show Q none (cw_put (cw_put (cw_put (s_m m cd vl pl tk) m_placed_ tk n) m_code_ tk 0) m_value_ tk 0)
        rw [s_m_ppl, s_m_pcd, s_m_pvl]
        have e : k_pl b n tk.toNat = n := by rw [← hbl]; unfold k_bl; rw [k_rn0 (by omega)]; omega
        exact hQ _ _ _ _ (K_te hT htk.1 e hn.1 (by omega))
      · have hkn : k < n := by omega
        have bk := hb k (by omega) hkn
        have ke := k_endr (b := b) hkn
        have a100 : k_pl b n tk.toNat = k → ∀ (w5 : cw_V), cw_R (d + 1) k_M_splits 100 [vr m_, vi n, vi k, vi (m m_tape_ k), vi (k_end b n k), w5] [] (s_m m cd vl pl tk) Q := by
          intro hpl w5
          have l169 : ∀ (r : Nat) (i : Int), (k_end b n k) < i + r → (k ≤ i ∧ i ≤ (k_end b n k)) → (¬ k_dg (b k) = true → i = k) → cw_R (d + 1) k_M_splits 169 [vr m_, vi n, vi k, vi (m m_tape_ k), vi (k_end b n k), vi i] [] (s_m m (cw_up cd tk (k_cd b n k)) (cw_up vl tk (k_nv b k (i - k).toNat)) (cw_up pl tk k) tk) Q := by
            intro r
            induction r with
            | zero =>
              intro i hr hi hnd
              omega
            | succ r ih =>
              intro i hr hi hnd
              have hm : la_ok (s_m m (cw_up cd tk (k_cd b n k)) (cw_up vl tk (k_nv b k (i - k).toNat)) (cw_up pl tk k) tk) := s_m_ok hm0
              have up := cw_up_eq (f := vl) (i := tk) (v := k_nv b k (i - k).toNat)
              have dgs : k_dg (b k) = true → ∀ z : Nat, k + z < k_end b n k → k_dg (b (k + z)) = true := by
                intro hd z hz
                have he : k_end b n k = k_rn b n k_dg (k + 1) := by unfold k_end; rw [if_neg (by rw [k_smt]; have := k_dgt.mp hd; omega), if_pos hd]
                by_cases z0 : z = 0
                · rw [z0, show k + ((0 : Nat) : Int) = k by omega]; exact hd
                · exact (k_rnr (b := b) (n := n) (p := k_dg) _ (k := k + 1) (Nat.le_refl _)).2.2.2 (k + z) (by omega) (by rw [← he]; omega)
              have nv : 0 ≤ k_nv b k (i - k).toNat ∧ k_nv b k (i - k).toNat ≤ 10000009 := by
                by_cases hd : k_dg (b k) = true
                · exact (k_nvr (i - k).toNat (fun z hz => dgs hd z (by omega))).1
                · rw [show (i - k).toNat = 0 by have := hnd hd; omega]; exact ⟨Int.le_refl 0, by show (0 : Int) ≤ 10000009; omega⟩
              have tr : -128 ≤ m m_tape_ i ∧ m m_tape_ i ≤ 127 ∨ ¬ i < n := by
                by_cases z : i < n
                · left; have z1 := hb i (by omega) z; have := k_i2b z1.1; omega
                · exact Or.inr z
              refine la_go_R hm 37 [7, 169] ?_
              refine And.intro (fun (c1 : (k_end b n k) ≤ i) => ?_) (fun (c1 : ¬ ((k_end b n k) ≤ i)) => ?_)
              · refine And.intro (show -2147483648 ≤ tk + 1 ∧ tk + 1 < 2147483648 by omega) ?_
                have hm2 : la_ok (cw_put (s_m m (cw_up cd tk (k_cd b n k)) (cw_up vl tk (k_nv b k (i - k).toNat)) (cw_up pl tk k) tk) m_ 18 (tk + 1)) := la_put hm (by decide) (Or.inl rfl)
                show cw_R _ _ 7 [vr m_, vi n, vi (k_end b n k), vi (m m_tape_ k), vi (k_end b n k), vi i] [] (cw_put (s_m m (cw_up cd tk (k_cd b n k)) (cw_up vl tk (k_nv b k (i - k).toNat)) (cw_up pl tk k) tk) m_ 18 (tk + 1)) _
                have hv : k_nv b k (i - k).toNat = k_vl b n k := by
                  unfold k_vl
                  by_cases hd : k_dg (b k) = true
                  · rw [if_pos ⟨by omega, hd⟩, show i = k_end b n k by have := (k_dg2 bk.1).mpr hd; rw [← bk.2] at this; omega]
                  · have hi : i = k := hnd hd
                    rw [if_neg (fun q => hd q.2), hi, show (k - k).toNat = 0 by omega]; rfl
                rw [hv, s_m_ftk]
                refine ih7 _ _ _ _ _ _ _ _ (by omega) (by omega) (by omega) (K_ts hT htk.1 hpl (by omega)) ?_
                rw [show (tk + 1).toNat = tk.toNat + 1 by omega]
                show _ = k_bl b n (k_en b n (k_pl b n tk.toNat))
                rw [hpl]; unfold k_en; rw [if_pos (by omega)]
              · show cw_C _ _ [vi (m m_tape_ k)] (s_m m (cw_up cd tk (k_cd b n k)) (cw_up vl tk (k_nv b k (i - k).toNat)) (cw_up pl tk k) tk) _
                refine M_isDigit hm (fun (a3 : 48 ≤ m m_tape_ k ∧ m m_tape_ k ≤ 57) => ⟨hm, ?_⟩) (fun (a3 : ¬ (48 ≤ m m_tape_ k ∧ m m_tape_ k ≤ 57)) => ⟨hm, ?_⟩)
                · refine br_f (by decide) ?_
                  refine And.intro (show 0 ≤ tk ∧ tk < 401 by omega) ?_
                  refine And.intro (fun (c4 : (cw_up vl tk (k_nv b k (i - k).toNat)) tk ≤ 1000000) => ?_) (fun (c4 : ¬ ((cw_up vl tk (k_nv b k (i - k).toNat)) tk ≤ 1000000)) => ?_)
                  · refine And.intro (show 0 ≤ tk ∧ tk < 401 by omega) ?_
                    refine And.intro (show -2147483648 ≤ 10 * ((cw_up vl tk (k_nv b k (i - k).toNat)) tk) ∧ 10 * ((cw_up vl tk (k_nv b k (i - k).toNat)) tk) < 2147483648 by omega) ?_
                    refine And.intro (show 0 ≤ i ∧ i < 400 by omega) ?_
                    refine And.intro (show -2147483648 ≤ (10 * ((cw_up vl tk (k_nv b k (i - k).toNat)) tk)) + (m m_tape_ i) ∧ (10 * ((cw_up vl tk (k_nv b k (i - k).toNat)) tk)) + (m m_tape_ i) < 2147483648 by omega) ?_
                    refine And.intro (show -2147483648 ≤ ((10 * ((cw_up vl tk (k_nv b k (i - k).toNat)) tk)) + (m m_tape_ i)) - 48 ∧ ((10 * ((cw_up vl tk (k_nv b k (i - k).toNat)) tk)) + (m m_tape_ i)) - 48 < 2147483648 by omega) ?_
                    refine And.intro (show 0 ≤ tk ∧ tk < 401 by omega) ?_
                    have hm5 : la_ok (cw_put (s_m m (cw_up cd tk (k_cd b n k)) (cw_up vl tk (k_nv b k (i - k).toNat)) (cw_up pl tk k) tk) m_value_ tk (((10 * ((cw_up vl tk (k_nv b k (i - k).toNat)) tk)) + (m m_tape_ i)) - 48)) := la_put hm (by decide) (Or.inr (by decide))
                    refine And.intro (show -2147483648 ≤ i + 1 ∧ i + 1 < 2147483648 by omega) ?_
                    show cw_R _ _ 169 [vr m_, vi n, vi k, vi (m m_tape_ k), vi (k_end b n k), vi (i + 1)] [] (cw_put (s_m m (cw_up cd tk (k_cd b n k)) (cw_up vl tk (k_nv b k (i - k).toNat)) (cw_up pl tk k) tk) m_value_ tk (((10 * ((cw_up vl tk (k_nv b k (i - k).toNat)) tk)) + (m m_tape_ i)) - 48)) _
                    refine la_go_R0 (m' := s_m m (cw_up cd tk (k_cd b n k)) (cw_up vl tk (k_nv b k (i + 1 - k).toNat)) (cw_up pl tk k) tk) (by
                        rw [s_m_pvl]; congr 1; funext z; by_cases ez : z = tk
                        · rw [ez]; simp only [cw_up_eq]; rw [show (i + 1 - k).toNat = (i - k).toNat + 1 by omega]
                          show _ = (if 1000000 < k_nv b k (i - k).toNat then k_nv b k (i - k).toNat else 10 * k_nv b k (i - k).toNat + b (k + ((i - k).toNat : Nat)) - 48)
                          rw [if_neg (by omega), show k + (((i - k).toNat : Nat) : Int) = i by omega]; have bi := hb i (by omega) (by omega); have := k_i2b bi.1; have di := dgs ((k_dg2 bk.1).mp (by rw [← bk.2]; omega)) (i - k).toNat (by omega); rw [show k + (((i - k).toNat : Nat) : Int) = i by omega] at di; have := k_dgt.mp di; omega
                        · rw [cw_up_ne ez, cw_up_ne ez, cw_up_ne ez]) ?_
                    exact ih (i + 1) (by omega) (by omega) (fun q => absurd (by rw [← k_dg2 bk.1, ← bk.2]; omega) q)
                  · refine And.intro (show 0 ≤ tk ∧ tk < 401 by omega) ?_
                    refine And.intro (show 0 ≤ tk ∧ tk < 401 by omega) ?_
                    have hm6 : la_ok (cw_put (s_m m (cw_up cd tk (k_cd b n k)) (cw_up vl tk (k_nv b k (i - k).toNat)) (cw_up pl tk k) tk) m_value_ tk ((cw_up vl tk (k_nv b k (i - k).toNat)) tk)) := la_put hm (by decide) (Or.inr (by decide))
                    refine And.intro (show -2147483648 ≤ i + 1 ∧ i + 1 < 2147483648 by omega) ?_
                    show cw_R _ _ 169 [vr m_, vi n, vi k, vi (m m_tape_ k), vi (k_end b n k), vi (i + 1)] [] (cw_put (s_m m (cw_up cd tk (k_cd b n k)) (cw_up vl tk (k_nv b k (i - k).toNat)) (cw_up pl tk k) tk) m_value_ tk ((cw_up vl tk (k_nv b k (i - k).toNat)) tk)) _
                    refine la_go_R0 (m' := s_m m (cw_up cd tk (k_cd b n k)) (cw_up vl tk (k_nv b k (i + 1 - k).toNat)) (cw_up pl tk k) tk) (by
                        rw [s_m_pvl]; congr 1; funext z; by_cases ez : z = tk
                        · rw [ez]; simp only [cw_up_eq]; rw [show (i + 1 - k).toNat = (i - k).toNat + 1 by omega]
                          show _ = (if 1000000 < k_nv b k (i - k).toNat then k_nv b k (i - k).toNat else 10 * k_nv b k (i - k).toNat + b (k + ((i - k).toNat : Nat)) - 48)
                          rw [if_pos (by omega)]
                        · rw [cw_up_ne ez, cw_up_ne ez, cw_up_ne ez]) ?_
                    exact ih (i + 1) (by omega) (by omega) (fun q => absurd (by rw [← k_dg2 bk.1, ← bk.2]; omega) q)
                · refine br_t (by decide) ?_
                  refine And.intro (show -2147483648 ≤ tk + 1 ∧ tk + 1 < 2147483648 by omega) ?_
                  have hm7 : la_ok (cw_put (s_m m (cw_up cd tk (k_cd b n k)) (cw_up vl tk (k_nv b k (i - k).toNat)) (cw_up pl tk k) tk) m_ 18 (tk + 1)) := la_put hm (by decide) (Or.inl rfl)
                  show cw_R _ _ 7 [vr m_, vi n, vi (k_end b n k), vi (m m_tape_ k), vi (k_end b n k), vi i] [] (cw_put (s_m m (cw_up cd tk (k_cd b n k)) (cw_up vl tk (k_nv b k (i - k).toNat)) (cw_up pl tk k) tk) m_ 18 (tk + 1)) _
                  have hv : k_nv b k (i - k).toNat = k_vl b n k := by
                    unfold k_vl
                    by_cases hd : k_dg (b k) = true
                    · rw [if_pos ⟨by omega, hd⟩, show i = k_end b n k by have := (k_dg2 bk.1).mpr hd; rw [← bk.2] at this; omega]
                    · have hi : i = k := hnd hd
                      rw [if_neg (fun q => hd q.2), hi, show (k - k).toNat = 0 by omega]; rfl
                  rw [hv, s_m_ftk]
                  refine ih7 _ _ _ _ _ _ _ _ (by omega) (by omega) (by omega) (K_ts hT htk.1 hpl (by omega)) ?_
                  rw [show (tk + 1).toNat = tk.toNat + 1 by omega]
                  show _ = k_bl b n (k_en b n (k_pl b n tk.toNat))
                  rw [hpl]; unfold k_en; rw [if_pos (by omega)]
          refine la_go_R hm 33 [169] ?_
          refine And.intro (show 0 ≤ tk ∧ tk < 401 by omega) ?_
          have hm1 : la_ok (cw_put (s_m m cd vl pl tk) m_placed_ tk k) := la_put hm (by decide) (Or.inr (by decide))
          refine And.intro (show 0 ≤ tk ∧ tk < 401 by omega) ?_
          have hm2 : la_ok (cw_put (cw_put (s_m m cd vl pl tk) m_placed_ tk k) m_value_ tk 0) := la_put hm1 (by decide) (Or.inr (by decide))
          show cw_C _ _ [vi (m m_tape_ k)] (cw_put (cw_put (s_m m cd vl pl tk) m_placed_ tk k) m_value_ tk 0) _
          refine M_isSmall hm2 (fun (a3 : 97 ≤ m m_tape_ k ∧ m m_tape_ k ≤ 122) => ⟨hm2, ?_⟩) (fun (a3 : ¬ (97 ≤ m m_tape_ k ∧ m m_tape_ k ≤ 122)) => ⟨hm2, ?_⟩)
          · refine br_f (by decide) ?_
            show cw_C _ _ [vr m_, vi k, vi (k_end b n k)] (cw_put (cw_put (s_m m cd vl pl tk) m_placed_ tk k) m_value_ tk 0) _
            refine M_wordOf hm2 htab hb (by omega) ⟨hm2, ?_⟩
            refine And.intro (show 0 ≤ tk ∧ tk < 401 by omega) ?_
            have hm4 : la_ok (cw_put (cw_put (cw_put (s_m m cd vl pl tk) m_placed_ tk k) m_value_ tk 0) m_code_ tk (k_wd b k (k_end b n k) k_WL 1)) := la_put hm2 (by decide) (Or.inr (by decide))
            show cw_R _ _ 169 [vr m_, vi n, vi k, vi (m m_tape_ k), vi (k_end b n k), vi k] [] (cw_put (cw_put (cw_put (s_m m cd vl pl tk) m_placed_ tk k) m_value_ tk 0) m_code_ tk (k_wd b k (k_end b n k) k_WL 1)) _
            have ec : k_wd b k (k_end b n k) k_WL 1 = k_cd b n k := by unfold k_cd; rw [if_pos (by omega)]; rw [if_pos ((k_sm2 bk.1).mp (by rw [← bk.2]; omega))]
            rw [s_m_ppl, s_m_pvl, s_m_pcd, ec]
            refine la_go_R0 (m' := s_m m (cw_up cd tk (k_cd b n k)) (cw_up vl tk (k_nv b k (k - k).toNat)) (cw_up pl tk k) tk) (by rw [show (k - k).toNat = 0 by omega]; rfl) ?_
            exact l169 (k_end b n k - k + 1).toNat k (by omega) (by omega) (fun _ => rfl)
          · refine br_t (by decide) ?_
            show cw_C _ _ [vi (m m_tape_ k)] (cw_put (cw_put (s_m m cd vl pl tk) m_placed_ tk k) m_value_ tk 0) _
            refine M_isDigit hm2 (fun (a5 : 48 ≤ m m_tape_ k ∧ m m_tape_ k ≤ 57) => ⟨hm2, ?_⟩) (fun (a5 : ¬ (48 ≤ m m_tape_ k ∧ m m_tape_ k ≤ 57)) => ⟨hm2, ?_⟩)
            · refine br_f (by decide) ?_
              refine And.intro (show 0 ≤ tk ∧ tk < 401 by omega) ?_
              have hm6 : la_ok (cw_put (cw_put (cw_put (s_m m cd vl pl tk) m_placed_ tk k) m_value_ tk 0) m_code_ tk 50) := la_put hm2 (by decide) (Or.inr (by decide))
              show cw_R _ _ 169 [vr m_, vi n, vi k, vi (m m_tape_ k), vi (k_end b n k), vi k] [] (cw_put (cw_put (cw_put (s_m m cd vl pl tk) m_placed_ tk k) m_value_ tk 0) m_code_ tk 50) _
              have ec : 50 = k_cd b n k := by unfold k_cd; rw [if_pos (by omega)]; rw [if_neg (fun q => by have := (k_sm2 bk.1).mpr q; rw [← bk.2] at this; omega), if_pos ((k_dg2 bk.1).mp (by rw [← bk.2]; omega))]
              rw [s_m_ppl, s_m_pvl, s_m_pcd, ec]
              refine la_go_R0 (m' := s_m m (cw_up cd tk (k_cd b n k)) (cw_up vl tk (k_nv b k (k - k).toNat)) (cw_up pl tk k) tk) (by rw [show (k - k).toNat = 0 by omega]; rfl) ?_
              exact l169 (k_end b n k - k + 1).toNat k (by omega) (by omega) (fun _ => rfl)
            · refine br_t (by decide) ?_
              refine And.intro (show -2147483648 ≤ 100 + (cw_iand (m m_tape_ k) 255) ∧ 100 + (cw_iand (m m_tape_ k) 255) < 2147483648 by have := k_255x bk.1; rw [bk.2, this]; omega) ?_
              refine And.intro (show 0 ≤ tk ∧ tk < 401 by omega) ?_
              have hm7 : la_ok (cw_put (cw_put (cw_put (s_m m cd vl pl tk) m_placed_ tk k) m_value_ tk 0) m_code_ tk (100 + (cw_iand (m m_tape_ k) 255))) := la_put hm2 (by decide) (Or.inr (by decide))
              show cw_R _ _ 169 [vr m_, vi n, vi k, vi (m m_tape_ k), vi (k_end b n k), vi k] [] (cw_put (cw_put (cw_put (s_m m cd vl pl tk) m_placed_ tk k) m_value_ tk 0) m_code_ tk (100 + (cw_iand (m m_tape_ k) 255))) _
              have ec : 100 + (cw_iand (m m_tape_ k) 255) = k_cd b n k := by unfold k_cd; rw [if_pos (by omega)]; rw [if_neg (fun q => by have := (k_sm2 bk.1).mpr q; rw [← bk.2] at this; omega), if_neg (fun q => by have := (k_dg2 bk.1).mpr q; rw [← bk.2] at this; omega), bk.2, k_255x bk.1]
              rw [s_m_ppl, s_m_pvl, s_m_pcd, ec]
              refine la_go_R0 (m' := s_m m (cw_up cd tk (k_cd b n k)) (cw_up vl tk (k_nv b k (k - k).toNat)) (cw_up pl tk k) tk) (by rw [show (k - k).toNat = 0 by omega]; rfl) ?_
              exact l169 (k_end b n k - k + 1).toNat k (by omega) (by omega) (fun _ => rfl)
        have l43 : k_pl b n tk.toNat = k → ∀ (r : Nat) (t : Int) (w5 : cw_V), n < t + r → (k < t ∧ t ≤ n) → (k_sm (b k) = true) → (k_rn b n k_sm t = (k_end b n k)) → cw_R (d + 1) k_M_splits 43 [vr m_, vi n, vi k, vi (m m_tape_ k), vi t, w5] [] (s_m m cd vl pl tk) Q := by
          intro hpl r
          induction r with
          | zero =>
            intro t w5 hr ht hd he
            omega
          | succ r ih =>
            intro t w5 hr ht hd he
            have hd2 := (k_sm2 bk.1).mpr hd
            rw [← bk.2] at hd2
            refine la_go_R hm 15 [43, 75, 100] ?_
            refine And.intro (fun (c1 : n ≤ t) => ?_) (fun (c1 : ¬ (n ≤ t)) => ?_)
            · show cw_C _ _ [vi (m m_tape_ k)] (s_m m cd vl pl tk) _
              refine M_isDigit hm (fun (a2 : 48 ≤ m m_tape_ k ∧ m m_tape_ k ≤ 57) => ⟨hm, ?_⟩) (fun (a2 : ¬ (48 ≤ m m_tape_ k ∧ m m_tape_ k ≤ 57)) => ⟨hm, ?_⟩)
              · refine br_f (by decide) ?_
                show cw_R _ _ 75 [vr m_, vi n, vi k, vi (m m_tape_ k), vi t, w5] [] (s_m m cd vl pl tk) _
                exfalso
                omega
              · refine br_t (by decide) ?_
                show cw_R _ _ 100 [vr m_, vi n, vi k, vi (m m_tape_ k), vi t, w5] [] (s_m m cd vl pl tk) _
                have z : t = (k_end b n k) := by
                  rw [k_rn0 (p := k_sm) (fun q => by have z1 := (k_sm2 (hb t (by omega) q.1).1).mpr q.2; have z2 := (hb t (by omega) q.1).2; omega)] at he
                  exact he
                subst z
                exact a100 hpl _
            · refine And.intro (show 0 ≤ t ∧ t < 400 by omega) ?_
              show cw_C _ _ [vi (m m_tape_ t)] (s_m m cd vl pl tk) _
              refine M_isSmall hm (fun (a3 : 97 ≤ m m_tape_ t ∧ m m_tape_ t ≤ 122) => ⟨hm, ?_⟩) (fun (a3 : ¬ (97 ≤ m m_tape_ t ∧ m m_tape_ t ≤ 122)) => ⟨hm, ?_⟩)
              · refine br_f (by decide) ?_
                refine And.intro (show -2147483648 ≤ t + 1 ∧ t + 1 < 2147483648 by omega) ?_
                show cw_R _ _ 43 [vr m_, vi n, vi k, vi (m m_tape_ k), vi (t + 1), w5] [] (s_m m cd vl pl tk) _
                refine ih (t + 1) _ (by omega) (by omega) hd ?_
                rw [← k_rn1 (p := k_sm) (by omega) ((k_sm2 (hb t (by omega) (by omega)).1).mp (by rw [← (hb t (by omega) (by omega)).2]; omega))]
                exact he
              · refine br_t (by decide) ?_
                show cw_C _ _ [vi (m m_tape_ k)] (s_m m cd vl pl tk) _
                refine M_isDigit hm (fun (a4 : 48 ≤ m m_tape_ k ∧ m m_tape_ k ≤ 57) => ⟨hm, ?_⟩) (fun (a4 : ¬ (48 ≤ m m_tape_ k ∧ m m_tape_ k ≤ 57)) => ⟨hm, ?_⟩)
                · refine br_f (by decide) ?_
                  show cw_R _ _ 75 [vr m_, vi n, vi k, vi (m m_tape_ k), vi t, w5] [] (s_m m cd vl pl tk) _
                  exfalso
                  omega
                · refine br_t (by decide) ?_
                  show cw_R _ _ 100 [vr m_, vi n, vi k, vi (m m_tape_ k), vi t, w5] [] (s_m m cd vl pl tk) _
                  have z : t = (k_end b n k) := by
                    rw [k_rn0 (p := k_sm) (fun q => by have z1 := (k_sm2 (hb t (by omega) q.1).1).mpr q.2; have z2 := (hb t (by omega) q.1).2; omega)] at he
                    exact he
                  subst z
                  exact a100 hpl _
        have l75 : k_pl b n tk.toNat = k → ∀ (r : Nat) (t : Int) (w5 : cw_V), n < t + r → (k < t ∧ t ≤ n) → (k_dg (b k) = true) → (k_rn b n k_dg t = (k_end b n k)) → cw_R (d + 1) k_M_splits 75 [vr m_, vi n, vi k, vi (m m_tape_ k), vi t, w5] [] (s_m m cd vl pl tk) Q := by
          intro hpl r
          induction r with
          | zero =>
            intro t w5 hr ht hd he
            omega
          | succ r ih =>
            intro t w5 hr ht hd he
            have hd2 := (k_dg2 bk.1).mpr hd
            rw [← bk.2] at hd2
            refine la_go_R hm 14 [75, 100] ?_
            refine And.intro (fun (c1 : n ≤ t) => ?_) (fun (c1 : ¬ (n ≤ t)) => ?_)
            · show cw_R _ _ 100 [vr m_, vi n, vi k, vi (m m_tape_ k), vi t, w5] [] (s_m m cd vl pl tk) _
              have z : t = (k_end b n k) := by
                rw [k_rn0 (p := k_dg) (fun q => by have z1 := (k_dg2 (hb t (by omega) q.1).1).mpr q.2; have z2 := (hb t (by omega) q.1).2; omega)] at he
                exact he
              subst z
              exact a100 hpl _
            · refine And.intro (show 0 ≤ t ∧ t < 400 by omega) ?_
              show cw_C _ _ [vi (m m_tape_ t)] (s_m m cd vl pl tk) _
              refine M_isDigit hm (fun (a2 : 48 ≤ m m_tape_ t ∧ m m_tape_ t ≤ 57) => ⟨hm, ?_⟩) (fun (a2 : ¬ (48 ≤ m m_tape_ t ∧ m m_tape_ t ≤ 57)) => ⟨hm, ?_⟩)
              · refine br_f (by decide) ?_
                refine And.intro (show -2147483648 ≤ t + 1 ∧ t + 1 < 2147483648 by omega) ?_
                show cw_R _ _ 75 [vr m_, vi n, vi k, vi (m m_tape_ k), vi (t + 1), w5] [] (s_m m cd vl pl tk) _
                refine ih (t + 1) _ (by omega) (by omega) hd ?_
                rw [← k_rn1 (p := k_dg) (by omega) ((k_dg2 (hb t (by omega) (by omega)).1).mp (by rw [← (hb t (by omega) (by omega)).2]; omega))]
                exact he
              · refine br_t (by decide) ?_
                show cw_R _ _ 100 [vr m_, vi n, vi k, vi (m m_tape_ k), vi t, w5] [] (s_m m cd vl pl tk) _
                have z : t = (k_end b n k) := by
                  rw [k_rn0 (p := k_dg) (fun q => by have z1 := (k_dg2 (hb t (by omega) q.1).1).mpr q.2; have z2 := (hb t (by omega) q.1).2; omega)] at he
                  exact he
                subst z
                exact a100 hpl _
        refine la_go_R hm 24 [7, 43, 75, 100] ?_
        refine br_f (show ¬ (n ≤ k) by omega) ?_
        refine And.intro (show 0 ≤ k ∧ k < 400 by omega) ?_
        refine And.intro (fun (c1 : m m_tape_ k ≠ 32) => ?_) (fun (c1 : ¬ (m m_tape_ k ≠ 32)) => ?_)
        · have hpl : k_pl b n tk.toNat = k := by rw [← hbl]; unfold k_bl; exact k_rn0 (fun q => by have := k_spt.mp q.2; have := k_i2b bk.1; omega)
          refine And.intro (show -2147483648 ≤ k + 1 ∧ k + 1 < 2147483648 by omega) ?_
          show cw_C _ _ [vi (m m_tape_ k)] (s_m m cd vl pl tk) _
          refine M_isSmall hm (fun (a2 : 97 ≤ m m_tape_ k ∧ m m_tape_ k ≤ 122) => ⟨hm, ?_⟩) (fun (a2 : ¬ (97 ≤ m m_tape_ k ∧ m m_tape_ k ≤ 122)) => ⟨hm, ?_⟩)
          · refine br_f (by decide) ?_
            show cw_R _ _ 43 [vr m_, vi n, vi k, vi (m m_tape_ k), vi (k + 1), w5] [] (s_m m cd vl pl tk) _
            have hs := (k_sm2 bk.1).mp (by rw [← bk.2]; omega)
            exact l43 hpl (n - k).toNat (k + 1) _ (by omega) (by omega) hs (by unfold k_end; rw [if_pos hs])
          · refine br_t (by decide) ?_
            show cw_C _ _ [vi (m m_tape_ k)] (s_m m cd vl pl tk) _
            refine M_isDigit hm (fun (a3 : 48 ≤ m m_tape_ k ∧ m m_tape_ k ≤ 57) => ⟨hm, ?_⟩) (fun (a3 : ¬ (48 ≤ m m_tape_ k ∧ m m_tape_ k ≤ 57)) => ⟨hm, ?_⟩)
            · refine br_f (by decide) ?_
              show cw_R _ _ 75 [vr m_, vi n, vi k, vi (m m_tape_ k), vi (k + 1), w5] [] (s_m m cd vl pl tk) _
              have hs : ¬ k_sm (b k) = true := fun q => by have := (k_sm2 bk.1).mpr q; rw [← bk.2] at this; omega
              have hd := (k_dg2 bk.1).mp (by rw [← bk.2]; omega)
              exact l75 hpl (n - k).toNat (k + 1) _ (by omega) (by omega) hd (by unfold k_end; rw [if_neg hs, if_pos hd])
            · refine br_t (by decide) ?_
              show cw_R _ _ 100 [vr m_, vi n, vi k, vi (m m_tape_ k), vi (k + 1), w5] [] (s_m m cd vl pl tk) _
              have hs : ¬ k_sm (b k) = true := fun q => by have := (k_sm2 bk.1).mpr q; rw [← bk.2] at this; omega
              have hd : ¬ k_dg (b k) = true := fun q => by have := (k_dg2 bk.1).mpr q; rw [← bk.2] at this; omega
              have z : k + 1 = (k_end b n k) := by unfold k_end; rw [if_neg hs, if_neg hd]
              rw [z]
              exact a100 hpl _
        · refine And.intro (show -2147483648 ≤ k + 1 ∧ k + 1 < 2147483648 by omega) ?_
          show cw_R _ _ 7 [vr m_, vi n, vi (k + 1), vi (m m_tape_ k), w4, w5] [] (s_m m cd vl pl tk) _
          refine ih7 (k + 1) _ _ _ _ _ _ _ (by omega) (by omega) (by omega) hT ?_
          rw [← hbl]; unfold k_bl; exact (k_rn1 (by omega) (k_spt.mpr (by have := k_i2b bk.1; omega))).symm
  have hm : la_ok (s_m m cd vl pl tk) := s_m_ok hm0
  refine la_go_C hm 8 [7] ?_
  have hm1 : la_ok (cw_put (s_m m cd vl pl tk) m_ 18 0) := la_put hm (by decide) (Or.inl rfl)
  show cw_R _ _ 7 [vr m_, vi n, vi 0, none, none, none] [] (cw_put (s_m m cd vl pl tk) m_ 18 0) _
  rw [s_m_ftk]
  exact l7 (n + 1).toNat 0 cd vl pl 0 _ _ _ (by omega) (by omega) (by omega) (fun i hi => by omega) rfl
theorem M_splits {d : Nat} {m : cw_M} {Q : Option cw_V → cw_M → Prop} (hm0 : la_ok m) (htab : k_tab (m m_words_) 0 k_WL) {b : Int → Int} {n : Int} (hn : 0 ≤ n ∧ n ≤ 400) (hb : ∀ i, 0 ≤ i → i < n → (0 ≤ b i ∧ b i ≤ 255) ∧ m m_tape_ i = cw_i2b (b i)) (hQ : ∀ cd vl pl tk, K_tok b n tk cd vl pl → Q none (s_m m cd vl pl tk)) : cw_C (d + 1) k_M_splits [vr m_, vi n] m Q := by
  have h := M_splits0 (d := d) hm0 htab hn hb (cd := m m_code_) (vl := m m_value_) (pl := m m_placed_) (tk := m m_ 18) hQ
  rw [s_m_self] at h
  exact h
