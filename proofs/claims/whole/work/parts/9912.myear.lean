/-! Years drawn, by the reference (wip/whole/tools/m112.py). -/
def y_nx (x : Int) : Int := Int.tmod (1103 * x + 12345) 1000003
theorem y_nr {x : Int} (h : 0 ≤ x) : 0 ≤ y_nx x ∧ y_nx x < 1000003 := by
  unfold y_nx
  rw [Int.tmod_eq_emod_of_nonneg (by omega)]
  omega
/-- a year: who, and how it goes with him -/
def y_K (K : Int → Int) (x : Int) : Int → Int := cw_up (cw_up K (12 + y_nx x % 6) (if y_nx (y_nx x) % 3 = 2 then K (12 + y_nx x % 6) else y_nx (y_nx x) % 3)) 18 (K 18 + 1)
noncomputable def y_a (K : Int → Int) : Int := if u_n (G_R K) (R_K K).length ≤ 1 then 1 else 0
noncomputable def y_l : Nat → (Int → Int) → Int → Int → (Int → Int) × Int
  | 0, K, _, c => (K, c)
  | n + 1, K, x, c => if 999 ≤ K 18 then (K, c) else y_l n (y_K K x) (y_nx (y_nx x)) (c + y_a (y_K K x))
theorem y_ls {n : Nat} {K : Int → Int} {x c : Int} (h : ¬ 999 ≤ K 18) : y_l (n + 1) K x c = y_l n (y_K K x) (y_nx (y_nx x)) (c + y_a (y_K K x)) := by
  show (if _ then _ else _) = _
  rw [if_neg h]
theorem y_lh {n : Nat} {K : Int → Int} {x c : Int} (h : 999 ≤ K 18) : y_l n K x c = (K, c) := by
  cases n with
  | zero => rfl
  | succ n => show (if _ then _ else _) = _; rw [if_pos h]
theorem y_Kr {K : Int → Int} {x : Int} (hK : K_r K) (hx : 0 ≤ x) (h : K 18 < 999) : K_r (y_K K x) := by
  have a := y_nr hx
  have b := y_nr a.1
  have k5 := hK.2.2.2.2.1
  unfold y_K
  have l := hK.2.2.2.1 (y_nx x % 6) (by omega) (by omega)
  refine K_rU (K_rU hK ?_) (by omega)
  refine Or.inr (Or.inr (Or.inl ⟨by omega, by omega, ?_⟩))
  split <;> omega
theorem M_draws {d : Nat} {m : cw_M} {Q : Option cw_V → cw_M → Prop} (hm : la_ok m) {q x : Int} (hq : 0 < q) (e : m m_ 54 = x) (hx : 0 ≤ x ∧ x ≤ 1000003) (h : Q (some (vi (y_nx x % q))) (cw_put m m_ 54 (y_nx x))) : cw_C d k_M_draws [vr m_, vi q] m Q := by
  subst e
  have yr := y_nr hx.1
  unfold y_nx at h yr
  refine la_go_C hm 20 [] ?_
  refine And.intro (show -9223372036854775808 ≤ 1103 * (m m_ 54) ∧ 1103 * (m m_ 54) < 9223372036854775808 by omega) ?_
  refine And.intro (show -9223372036854775808 ≤ (1103 * (m m_ 54)) + 12345 ∧ (1103 * (m m_ 54)) + 12345 < 9223372036854775808 by omega) ?_
  refine And.intro (show (1000003 : Int) ≠ 0 by omega) ?_
  refine And.intro (show -2147483648 ≤ Int.tmod ((1103 * (m m_ 54)) + 12345) 1000003 ∧ Int.tmod ((1103 * (m m_ 54)) + 12345) 1000003 < 2147483648 by omega) ?_
  refine And.intro (show 0 ≤ Int.tmod ((1103 * (m m_ 54)) + 12345) 1000003 ∧ 0 < q from ⟨yr.1, hq⟩) ?_
  exact h
theorem M_drawsK {d : Nat} {m : cw_M} {Q : Option cw_V → cw_M → Prop} {K : Int → Int} (hm : la_ok m) {q x : Int} (hq : 0 < q) (e : m m_ 54 = x) (hx : 0 ≤ x ∧ x ≤ 1000003) (ek : m m_kept_ = K) (h : Q (some (vi (y_nx x % q))) (kr_m (cw_put m m_ 54 (y_nx x)) K)) : cw_C d k_M_draws [vr m_, vi q] m Q := by
  refine M_draws hm hq e hx ?_
  have e2 : kr_m (cw_put m m_ 54 (y_nx x)) K = cw_put m m_ 54 (y_nx x) := by
    rw [← ek]
    exact cw_row_self
  rw [← e2]; exact h
theorem M_unlikeK {d : Nat} {m : cw_M} {Q : Option cw_V → cw_M → Prop} {K : Int → Int} (hm : la_ok m) (hc : ∀ j, 0 ≤ j → j < 7 → m m_catalan_ j = t_c j) (ek : m m_kept_ = K) (hK : K_r K) (h : ∀ M, la_ok M → S_f m M → Q (some (vi (u_n (G_R K) (R_K K).length))) M) : cw_C (d + 88) k_M_unlike [vr m_] m Q := by
  subst ek
  exact M_unlike hm hc hK h
theorem y_P {B X M : cw_M} {K K' : Int → Int} {x x' : Int} (h : P_s (cw_put (kr_m B K) m_ 54 x) X) (h1 : M m_kept_ = K') (h2 : ∀ c, c ≠ m_ → c ≠ m_kept_ → M c = X c) (h3 : M m_ 54 = x') (h4 : ∀ j, j ≠ 54 → M m_ j = X m_ j) : P_s (cw_put (kr_m B K') m_ 54 x') M := by
  refine ⟨fun c a b => ?_, fun j a => ?_⟩
  · rw [cw_put_ne b]
    unfold kr_m
    by_cases e : c = m_kept_
    · rw [e, cw_row_eq]; exact h1
    · rw [cw_row_ne e, h2 c b e, h.1 c a b, cw_put_ne b]; unfold kr_m; rw [cw_row_ne e]
  · by_cases e : j = 54
    · rw [e, cw_put_eq]; exact h3
    · rw [cw_put_off e, h4 j e, h.2 j a, cw_put_off e]; rfl
theorem M_years46 {d : Nat} {X B : cw_M} {Q : Option cw_V → cw_M → Prop} {K0 : Int → Int} {R : (Int → Int) × Int} {sd n : Int} {w5 w6 : cw_V} (hn : 1 ≤ n ∧ n ≤ 60) (hc : ∀ j, 0 ≤ j → j < 7 → B m_catalan_ j = t_c j) (ex : ∀ (k x c : Int) (K : Int → Int) (X : cw_M) (w5 w6 : cw_V), la_ok X → P_s (cw_put (kr_m B K) m_ 54 x) X → (∀ i, (19 ≤ i ∨ i < 0) → K i = K0 i) → (0 ≤ c ∧ c ≤ k) → (K, c) = R → cw_R (d + 89) k_M_years 144 [vr m_, vi sd, vi n, vi c, vi k, w5, w6] [] X Q) (hX : la_ok X) (hP : P_s (cw_put (kr_m B K0) m_ 54 sd) X) (hK : K_r K0) (hs : 0 ≤ sd ∧ sd ≤ 1000000) (hR : y_l n.toNat K0 sd 0 = R) : cw_R (d + 89) k_M_years 46 [vr m_, vi sd, vi n, vi 0, vi 0, w5, w6] [] X Q := by
  have lp : ∀ (r : Nat) (k x c : Int) (K : Int → Int) (X : cw_M) (w5 w6 : cw_V), n < k + r → (0 ≤ k ∧ k ≤ n) → (la_ok X) → (P_s (cw_put (kr_m B K) m_ 54 x) X) → (K_r K) → (∀ i, (19 ≤ i ∨ i < 0) → K i = K0 i) → (0 ≤ x ∧ x ≤ 1000003) → (0 ≤ c ∧ c ≤ k) → (y_l (n - k).toNat K x c = R) → cw_R (d + 89) k_M_years 46 [vr m_, vi sd, vi n, vi c, vi k, w5, w6] [] X Q := by
    intro r
    induction r with
    | zero =>
      intro k x c K X w5 w6 hr hk hX hP hK hKo hx hc1 hR
      omega
    | succ r ih =>
      intro k x c K X w5 w6 hr hk hX hP hK hKo hx hc1 hR
      have ek : X m_kept_ = K := hP.1 _ (by decide) (by decide)
      have ek18 : X m_kept_ 18 = K 18 := by rw [ek]
      have x54 : X m_ 54 = x := hP.2 54 (by decide)
      have yr := y_nr hx.1
      have yr2 := y_nr yr.1
      have k5 := hK.2.2.2.2.1
      have hcX : ∀ j, 0 ≤ j → j < 7 → X m_catalan_ j = t_c j := fun j a b => by rw [hP.1 _ (by decide) (by decide)]; exact hc j a b
      refine la_go_R hX 55 [46, 144] ?_
      refine And.intro (fun (c21 : n ≤ k) => ?_) (fun (c21 : ¬ (n ≤ k)) => ?_)
      · show cw_R _ _ 144 [vr m_, vi sd, vi n, vi c, vi k, w5, w6] [] (X) _
        exact ex k x c K X _ _ hX hP hKo hc1 (by rw [← hR]; first | rw [y_lh (by omega)] | rw [show (n - k).toNat = 0 by omega]; rfl)
      · refine And.intro (show 0 ≤ 18 ∧ 18 < 5658 by omega) ?_
        refine And.intro (fun (c22 : 999 ≤ X m_kept_ 18) => ?_) (fun (c22 : ¬ (999 ≤ X m_kept_ 18)) => ?_)
        · show cw_R _ _ 144 [vr m_, vi sd, vi n, vi c, vi k, w5, w6] [] (X) _
          exact ex k x c K X _ _ hX hP hKo hc1 (by rw [← hR]; first | rw [y_lh (by omega)] | rw [show (n - k).toNat = 0 by omega]; rfl)
        · show cw_C _ _ [vr m_, vi 6] (X) _
          have ykK : K_r (y_K K x) := y_Kr hK hx.1 (by omega)
          refine M_draws hX (by decide) x54 hx ⟨(la_put hX (by decide) (Or.inl rfl)), ?_⟩
          show cw_C _ _ [vr m_, vi 3] (cw_put X m_ 54 (y_nx x)) _
          refine M_drawsK (K := K) (x := y_nx x) (la_put hX (by decide) (Or.inl rfl)) (by decide) cw_put_eq ⟨yr.1, by omega⟩ ek ⟨(kr_ok (la_put (la_put hX (by decide) (Or.inl rfl)) (by decide) (Or.inl rfl))), ?_⟩
          refine And.intro (show -2147483648 ≤ 12 + (y_nx x % 6) ∧ 12 + (y_nx x % 6) < 2147483648 by omega) ?_
          refine And.intro (fun (c23 : y_nx (y_nx x) % 3 ≠ 2) => ?_) (fun (c23 : ¬ (y_nx (y_nx x) % 3 ≠ 2)) => ?_)
          · refine And.intro (show 0 ≤ 12 + (y_nx x % 6) ∧ 12 + (y_nx x % 6) < 5658 by omega) ?_
            have hm24 : la_ok (cw_put (kr_m (cw_put (cw_put X m_ 54 (y_nx x)) m_ 54 (y_nx (y_nx x))) K) m_kept_ (12 + (y_nx x % 6)) (y_nx (y_nx x) % 3)) := la_put (kr_ok (la_put (la_put hX (by decide) (Or.inl rfl)) (by decide) (Or.inl rfl))) (by decide) (Or.inr (by decide))
            refine And.intro (show 0 ≤ 18 ∧ 18 < 5658 by omega) ?_
            have e25 : (cw_put (kr_m (cw_put (cw_put X m_ 54 (y_nx x)) m_ 54 (y_nx (y_nx x))) K) m_kept_ (12 + (y_nx x % 6)) (y_nx (y_nx x) % 3)) m_kept_ 18 = K 18 := cw_put_off (by omega)
            refine And.intro (show -2147483648 ≤ ((cw_put (kr_m (cw_put (cw_put X m_ 54 (y_nx x)) m_ 54 (y_nx (y_nx x))) K) m_kept_ (12 + (y_nx x % 6)) (y_nx (y_nx x) % 3)) m_kept_ 18) + 1 ∧ ((cw_put (kr_m (cw_put (cw_put X m_ 54 (y_nx x)) m_ 54 (y_nx (y_nx x))) K) m_kept_ (12 + (y_nx x % 6)) (y_nx (y_nx x) % 3)) m_kept_ 18) + 1 < 2147483648 by omega) ?_
            refine And.intro (show 0 ≤ 18 ∧ 18 < 5658 by omega) ?_
            have hm26 : la_ok (cw_put (cw_put (kr_m (cw_put (cw_put X m_ 54 (y_nx x)) m_ 54 (y_nx (y_nx x))) K) m_kept_ (12 + (y_nx x % 6)) (y_nx (y_nx x) % 3)) m_kept_ 18 (((cw_put (kr_m (cw_put (cw_put X m_ 54 (y_nx x)) m_ 54 (y_nx (y_nx x))) K) m_kept_ (12 + (y_nx x % 6)) (y_nx (y_nx x) % 3)) m_kept_ 18) + 1)) := la_put hm24 (by decide) (Or.inr (by decide))
            show cw_C _ _ [vr m_] (cw_put (cw_put (kr_m (cw_put (cw_put X m_ 54 (y_nx x)) m_ 54 (y_nx (y_nx x))) K) m_kept_ (12 + (y_nx x % 6)) (y_nx (y_nx x) % 3)) m_kept_ 18 (((cw_put (kr_m (cw_put (cw_put X m_ 54 (y_nx x)) m_ 54 (y_nx (y_nx x))) K) m_kept_ (12 + (y_nx x % 6)) (y_nx (y_nx x) % 3)) m_kept_ 18) + 1)) _
            refine M_unlikeK (K := y_K K x) hm26 hcX (by rw [cw_put_r, cw_put_r]; show cw_up (cw_up K _ _) 18 (cw_up K _ _ 18 + 1) = _; rw [cw_up_ne (by omega)]; unfold y_K; split <;> first | rfl | (exfalso; omega)) ykK (fun (Y : cw_M) (hY : la_ok Y) hSf => ⟨hY, ?_⟩)
            have hPY : P_s (cw_put (kr_m B (y_K K x)) m_ 54 (y_nx (y_nx x))) Y := P_st (y_P hP (by rw [cw_put_r, cw_put_r]; show cw_up (cw_up K _ _) 18 (cw_up K _ _ 18 + 1) = _; rw [cw_up_ne (by omega)]; unfold y_K; split <;> first | rfl | (exfalso; omega)) (fun c a b => by rw [cw_put_ne b, cw_put_ne b]; unfold kr_m; rw [cw_row_ne b, cw_put_ne a, cw_put_ne a]) rfl (fun j a => by rw [cw_put_ne (by decide), cw_put_ne (by decide)]; unfold kr_m; rw [cw_row_ne (by decide), cw_put_off a, cw_put_off a])) (P_sS hSf)
            refine And.intro (fun (c27 : 1 < u_n (G_R (y_K K x)) (R_K (y_K K x)).length) => ?_) (fun (c27 : ¬ (1 < u_n (G_R (y_K K x)) (R_K (y_K K x)).length)) => ?_)
            · refine And.intro (show -2147483648 ≤ c + 0 ∧ c + 0 < 2147483648 by omega) ?_
              refine And.intro (show -2147483648 ≤ k + 1 ∧ k + 1 < 2147483648 by omega) ?_
              show cw_R _ _ 46 [vr m_, vi sd, vi n, vi (c + 0), vi (k + 1), vi (y_nx x % 6), vi (y_nx (y_nx x) % 3)] [] (Y) _
              have e1 : (n - k).toNat = (n - (k + 1)).toNat + 1 := by omega
              rw [e1, y_ls (by omega)] at hR
              have ya : y_a (y_K K x) = 0 := by unfold y_a; rw [if_neg (by omega)]
              rw [ya] at hR
              exact ih (k + 1) _ _ _ Y _ _ (by omega) (by omega) hY hPY ykK (fun i a => by unfold y_K; rw [cw_up_ne (by omega), cw_up_ne (by omega)]; exact hKo i a) ⟨by omega, by omega⟩ (by omega) hR
            · refine And.intro (show -2147483648 ≤ c + 1 ∧ c + 1 < 2147483648 by omega) ?_
              refine And.intro (show -2147483648 ≤ k + 1 ∧ k + 1 < 2147483648 by omega) ?_
              show cw_R _ _ 46 [vr m_, vi sd, vi n, vi (c + 1), vi (k + 1), vi (y_nx x % 6), vi (y_nx (y_nx x) % 3)] [] (Y) _
              have e1 : (n - k).toNat = (n - (k + 1)).toNat + 1 := by omega
              rw [e1, y_ls (by omega)] at hR
              have ya : y_a (y_K K x) = 1 := by unfold y_a; rw [if_pos (by omega)]
              rw [ya] at hR
              exact ih (k + 1) _ _ _ Y _ _ (by omega) (by omega) hY hPY ykK (fun i a => by unfold y_K; rw [cw_up_ne (by omega), cw_up_ne (by omega)]; exact hKo i a) ⟨by omega, by omega⟩ (by omega) hR
          · refine And.intro (show -2147483648 ≤ 12 + (y_nx x % 6) ∧ 12 + (y_nx x % 6) < 2147483648 by omega) ?_
            refine And.intro (show 0 ≤ 12 + (y_nx x % 6) ∧ 12 + (y_nx x % 6) < 5658 by omega) ?_
            refine And.intro (show 0 ≤ 12 + (y_nx x % 6) ∧ 12 + (y_nx x % 6) < 5658 by omega) ?_
            have hm28 : la_ok (cw_put (kr_m (cw_put (cw_put X m_ 54 (y_nx x)) m_ 54 (y_nx (y_nx x))) K) m_kept_ (12 + (y_nx x % 6)) (K (12 + (y_nx x % 6)))) := la_put (kr_ok (la_put (la_put hX (by decide) (Or.inl rfl)) (by decide) (Or.inl rfl))) (by decide) (Or.inr (by decide))
            refine And.intro (show 0 ≤ 18 ∧ 18 < 5658 by omega) ?_
            have e29 : (cw_put (kr_m (cw_put (cw_put X m_ 54 (y_nx x)) m_ 54 (y_nx (y_nx x))) K) m_kept_ (12 + (y_nx x % 6)) (K (12 + (y_nx x % 6)))) m_kept_ 18 = K 18 := cw_put_off (by omega)
            refine And.intro (show -2147483648 ≤ ((cw_put (kr_m (cw_put (cw_put X m_ 54 (y_nx x)) m_ 54 (y_nx (y_nx x))) K) m_kept_ (12 + (y_nx x % 6)) (K (12 + (y_nx x % 6)))) m_kept_ 18) + 1 ∧ ((cw_put (kr_m (cw_put (cw_put X m_ 54 (y_nx x)) m_ 54 (y_nx (y_nx x))) K) m_kept_ (12 + (y_nx x % 6)) (K (12 + (y_nx x % 6)))) m_kept_ 18) + 1 < 2147483648 by omega) ?_
            refine And.intro (show 0 ≤ 18 ∧ 18 < 5658 by omega) ?_
            have hm30 : la_ok (cw_put (cw_put (kr_m (cw_put (cw_put X m_ 54 (y_nx x)) m_ 54 (y_nx (y_nx x))) K) m_kept_ (12 + (y_nx x % 6)) (K (12 + (y_nx x % 6)))) m_kept_ 18 (((cw_put (kr_m (cw_put (cw_put X m_ 54 (y_nx x)) m_ 54 (y_nx (y_nx x))) K) m_kept_ (12 + (y_nx x % 6)) (K (12 + (y_nx x % 6)))) m_kept_ 18) + 1)) := la_put hm28 (by decide) (Or.inr (by decide))
            show cw_C _ _ [vr m_] (cw_put (cw_put (kr_m (cw_put (cw_put X m_ 54 (y_nx x)) m_ 54 (y_nx (y_nx x))) K) m_kept_ (12 + (y_nx x % 6)) (K (12 + (y_nx x % 6)))) m_kept_ 18 (((cw_put (kr_m (cw_put (cw_put X m_ 54 (y_nx x)) m_ 54 (y_nx (y_nx x))) K) m_kept_ (12 + (y_nx x % 6)) (K (12 + (y_nx x % 6)))) m_kept_ 18) + 1)) _
            refine M_unlikeK (K := y_K K x) hm30 hcX (by rw [cw_put_r, cw_put_r]; show cw_up (cw_up K _ _) 18 (cw_up K _ _ 18 + 1) = _; rw [cw_up_ne (by omega)]; unfold y_K; split <;> first | rfl | (exfalso; omega)) ykK (fun (Y : cw_M) (hY : la_ok Y) hSf => ⟨hY, ?_⟩)
            have hPY : P_s (cw_put (kr_m B (y_K K x)) m_ 54 (y_nx (y_nx x))) Y := P_st (y_P hP (by rw [cw_put_r, cw_put_r]; show cw_up (cw_up K _ _) 18 (cw_up K _ _ 18 + 1) = _; rw [cw_up_ne (by omega)]; unfold y_K; split <;> first | rfl | (exfalso; omega)) (fun c a b => by rw [cw_put_ne b, cw_put_ne b]; unfold kr_m; rw [cw_row_ne b, cw_put_ne a, cw_put_ne a]) rfl (fun j a => by rw [cw_put_ne (by decide), cw_put_ne (by decide)]; unfold kr_m; rw [cw_row_ne (by decide), cw_put_off a, cw_put_off a])) (P_sS hSf)
            refine And.intro (fun (c31 : 1 < u_n (G_R (y_K K x)) (R_K (y_K K x)).length) => ?_) (fun (c31 : ¬ (1 < u_n (G_R (y_K K x)) (R_K (y_K K x)).length)) => ?_)
            · refine And.intro (show -2147483648 ≤ c + 0 ∧ c + 0 < 2147483648 by omega) ?_
              refine And.intro (show -2147483648 ≤ k + 1 ∧ k + 1 < 2147483648 by omega) ?_
              show cw_R _ _ 46 [vr m_, vi sd, vi n, vi (c + 0), vi (k + 1), vi (y_nx x % 6), vi (y_nx (y_nx x) % 3)] [] (Y) _
              have e1 : (n - k).toNat = (n - (k + 1)).toNat + 1 := by omega
              rw [e1, y_ls (by omega)] at hR
              have ya : y_a (y_K K x) = 0 := by unfold y_a; rw [if_neg (by omega)]
              rw [ya] at hR
              exact ih (k + 1) _ _ _ Y _ _ (by omega) (by omega) hY hPY ykK (fun i a => by unfold y_K; rw [cw_up_ne (by omega), cw_up_ne (by omega)]; exact hKo i a) ⟨by omega, by omega⟩ (by omega) hR
            · refine And.intro (show -2147483648 ≤ c + 1 ∧ c + 1 < 2147483648 by omega) ?_
              refine And.intro (show -2147483648 ≤ k + 1 ∧ k + 1 < 2147483648 by omega) ?_
              show cw_R _ _ 46 [vr m_, vi sd, vi n, vi (c + 1), vi (k + 1), vi (y_nx x % 6), vi (y_nx (y_nx x) % 3)] [] (Y) _
              have e1 : (n - k).toNat = (n - (k + 1)).toNat + 1 := by omega
              rw [e1, y_ls (by omega)] at hR
              have ya : y_a (y_K K x) = 1 := by unfold y_a; rw [if_pos (by omega)]
              rw [ya] at hR
              exact ih (k + 1) _ _ _ Y _ _ (by omega) (by omega) hY hPY ykK (fun i a => by unfold y_K; rw [cw_up_ne (by omega), cw_up_ne (by omega)]; exact hKo i a) ⟨by omega, by omega⟩ (by omega) hR
  exact lp (n.toNat + 1) 0 sd 0 K0 X w5 w6 (by omega) (by omega) hX hP hK (fun _ _ => rfl) (by omega) (by omega) (by rw [Int.sub_zero]; exact hR)
theorem M_years144 {d : Nat} {m : cw_M} {Q : Option cw_V → cw_M → Prop} (hm : la_ok m) {sd n c k0 : Int} {w5 w6 : cw_V} (h : Q (some (vi c)) (gd_m (kr_m (cw_row m m_drawnMoved_ (t_w (m m_drawnMoved_) 0 0 19 (fun x => m m_kept_ x))) (t_w (m m_kept_) 0 0 19 (fun x => m m_aside_ (19 * 0 + x)))))) : cw_R (d + 89) k_M_years 144 [vr m_, vi sd, vi n, vi c, vi k0, w5, w6] [] m Q := by
  have fin : cw_R (d + 89) k_M_years 174 [vr m_, vi sd, vi n, vi c, vi 19, w5, w6] [] (cw_row m m_drawnMoved_ (t_w (m m_drawnMoved_) 0 0 19 (fun x => m m_kept_ x))) Q := by
    refine la_go_R (la_row hm (by decide) (by decide)) 10 [] ?_
    show cw_C _ _ [vr m_, vi 0] (cw_row m m_drawnMoved_ (t_w (m m_drawnMoved_) 0 0 19 (fun x => m m_kept_ x))) _
    refine M_takesBack (la_row hm (by decide) (by decide)) (by decide) ⟨(kr_ok (la_row hm (by decide) (by decide))), ?_⟩
    show cw_C _ _ [vr m_, vi c] (kr_m (cw_row m m_drawnMoved_ (t_w (m m_drawnMoved_) 0 0 19 (fun x => m m_kept_ x))) (t_w (m m_kept_) 0 0 19 (fun x => m m_aside_ (19 * 0 + x)))) _
    refine M_good (kr_ok (la_row hm (by decide) (by decide))) ⟨(gd_ok (kr_ok (la_row hm (by decide) (by decide)))), ?_⟩
    show Q (some (vi c)) (gd_m (kr_m (cw_row m m_drawnMoved_ (t_w (m m_drawnMoved_) 0 0 19 (fun x => m m_kept_ x))) (t_w (m m_kept_) 0 0 19 (fun x => m m_aside_ (19 * 0 + x)))))
    exact h
  have lp : ∀ (r : Nat) (k : Int), 19 < k + r → (0 ≤ k ∧ k ≤ 19) → cw_R (d + 89) k_M_years 147 [vr m_, vi sd, vi n, vi c, vi k, w5, w6] [] (cw_row m m_drawnMoved_ (t_w (m m_drawnMoved_) 0 0 k (fun x => m m_kept_ x))) Q := by
    intro r
    induction r with
    | zero =>
      intro k hr hk
      omega
    | succ r ih =>
      intro k hr hk
      refine la_go_R (la_row hm (by decide) (by decide)) 16 [147, 174] ?_
      refine And.intro (fun (c21 : 19 ≤ k) => ?_) (fun (c21 : ¬ (19 ≤ k)) => ?_)
      · show cw_R _ _ 174 [vr m_, vi sd, vi n, vi c, vi k, w5, w6] [] (cw_row m m_drawnMoved_ (t_w (m m_drawnMoved_) 0 0 k (fun x => m m_kept_ x))) _
        rw [show k = 19 by omega]
        exact fin
      · refine And.intro (show 0 ≤ k ∧ k < 5658 by omega) ?_
        refine And.intro (show 0 ≤ k ∧ k < 19 by omega) ?_
        have hm22 : la_ok (cw_put (cw_row m m_drawnMoved_ (t_w (m m_drawnMoved_) 0 0 k (fun x => m m_kept_ x))) m_drawnMoved_ k (m m_kept_ k)) := la_put (la_row hm (by decide) (by decide)) (by decide) (Or.inr (by decide))
        refine And.intro (show -2147483648 ≤ k + 1 ∧ k + 1 < 2147483648 by omega) ?_
        show cw_R _ _ 147 [vr m_, vi sd, vi n, vi c, vi (k + 1), w5, w6] [] (cw_put (cw_row m m_drawnMoved_ (t_w (m m_drawnMoved_) 0 0 k (fun x => m m_kept_ x))) m_drawnMoved_ k (m m_kept_ k)) _
        refine la_go_R0 (m' := cw_row m m_drawnMoved_ (t_w (m m_drawnMoved_) 0 0 (k + 1) (fun x => m m_kept_ x))) (by rw [cw_row_put]; congr 1; exact t_w0s hk.1) ?_
        exact ih (k + 1) (by omega) (by omega)
  refine la_go_R hm 5 [147] ?_
  show cw_R _ _ 147 [vr m_, vi sd, vi n, vi c, vi 0, w5, w6] [] (m) _
  refine la_go_R0 (m' := cw_row m m_drawnMoved_ (t_w (m m_drawnMoved_) 0 0 0 (fun x => m m_kept_ x))) (by rw [t_w0, cw_row_self]) ?_
  exact lp 20 0 (by omega) (by omega)
theorem M_years {d : Nat} {m : cw_M} {Q : Option cw_V → cw_M → Prop} (hm : la_ok m) (hr : r_fb m) (hc : ∀ j, 0 ≤ j → j < 7 → m m_catalan_ j = t_c j) (hK : K_r (m m_kept_)) {sd n : Int} (h0 : ¬ ((0 ≤ sd ∧ sd ≤ 1000000) ∧ 1 ≤ n ∧ n ≤ 60) → Q (some (vi (-1))) (rf_m m (-1))) (h1 : (0 ≤ sd ∧ sd ≤ 1000000) → (1 ≤ n ∧ n ≤ 60) → ∀ M, la_ok M → U_s (gd_m (cw_put (cw_row m m_drawnMoved_ (t_w (m m_drawnMoved_) 0 0 19 (fun x => (y_l n.toNat (m m_kept_) sd 0).1 x))) m_ 53 1)) M → Q (some (vi (y_l n.toNat (m m_kept_) sd 0).2)) M) : cw_C (d + 89) k_M_years [vr m_, vi sd, vi n] m Q := by
  refine la_go_C hm 26 [46] ?_
  show cw_C _ _ [vi sd, vi 0, vi 1000000] (m) _
  refine M_lies (fun (k0 : 0 ≤ sd) (k1 : sd ≤ 1000000) => ⟨hm, ?_⟩) (fun (k0 : ¬ (0 ≤ sd ∧ sd ≤ 1000000)) => ⟨hm, ?_⟩)
  · refine br_f (show ¬ ((1 : Int) = 0) by decide) ?_
    show cw_C _ _ [vi n, vi 1, vi 60] (m) _
    refine M_lies (fun (k0 : 1 ≤ n) (k1 : n ≤ 60) => ⟨hm, ?_⟩) (fun (k0 : ¬ (1 ≤ n ∧ n ≤ 60)) => ⟨hm, ?_⟩)
    · refine br_t (show (1 : Int) ≠ 0 by decide) ?_
      have hm21 : la_ok (cw_put m m_ 54 sd) := la_put hm (by decide) (Or.inl rfl)
      refine And.intro (Or.inr rfl) ?_
      have hm22 : la_ok (cw_put (cw_put m m_ 54 sd) m_ 53 1) := la_put hm21 (by decide) (Or.inl rfl)
      show cw_C _ _ [vr m_, vi 0] (cw_put (cw_put m m_ 54 sd) m_ 53 1) _
      refine M_laysAside hm22 (by decide) ⟨(la_row hm22 (by decide) (by decide)), ?_⟩
      show cw_R _ _ 46 [vr m_, vi sd, vi n, vi 0, vi 0, none, none] [] (cw_row (cw_put (cw_put m m_ 54 sd) m_ 53 1) m_aside_ (t_w (m m_aside_) (19 * 0) 0 19 (fun x => m m_kept_ x))) _
      have hB : la_ok (cw_row (cw_put (cw_put m m_ 54 sd) m_ 53 1) m_aside_ (t_w (m m_aside_) (19 * 0) 0 19 (fun x => m m_kept_ x))) := (la_row hm22 (by decide) (by decide))
      generalize eB : cw_row (cw_put (cw_put m m_ 54 sd) m_ 53 1) m_aside_ (t_w (m m_aside_) (19 * 0) 0 19 (fun x => m m_kept_ x)) = B at *
      have bc : ∀ c, c ≠ m_ → c ≠ m_aside_ → B c = m c := fun c a b => by rw [← eB, cw_row_ne b, cw_put_ne a, cw_put_ne a]
      refine M_years46 (B := B) (K0 := m m_kept_) (R := y_l n.toNat (m m_kept_) sd 0) (by omega) (fun j a b => by rw [bc _ (by decide) (by decide)]; exact hc j a b) (fun k x c K X w5 w6 hX hP hKo hc1 e => ?_) hB ?_ hK (by omega) rfl
      · refine M_years144 hX ?_
        have xk : X m_kept_ = K := hP.1 _ (by decide) (by decide)
        have xd : X m_drawnMoved_ = m m_drawnMoved_ := by rw [hP.1 _ (by decide) (by decide)]; exact bc _ (by decide) (by decide)
        have xa : ∀ x, 0 ≤ x → x < 19 → X m_aside_ (19 * 0 + x) = m m_kept_ x := fun x p q => by rw [hP.1 _ (by decide) (by decide)]; show B m_aside_ _ = _; rw [← eB, cw_row_eq]; exact t_wi (by omega)
        have eK : t_w (X m_kept_) 0 0 19 (fun x => X m_aside_ (19 * 0 + x)) = m m_kept_ := by
          funext i
          unfold t_w
          by_cases q : 0 + 0 ≤ i ∧ i < 0 + 0 + 19
          · rw [if_pos q, Int.sub_zero]; exact xa i (by omega) (by omega)
          · rw [if_neg q, xk]; exact hKo i (by omega)
        rw [eK, xk, xd]
        have e1 : K = (y_l n.toNat (m m_kept_) sd 0).1 := by rw [← e]
        have e2 : c = (y_l n.toNat (m m_kept_) sd 0).2 := by rw [← e]
        rw [e2]
        refine h1 (by omega) (by omega) _ (gd_ok (kr_ok (la_row hX (by decide) (by decide)))) (U_sg ⟨fun c a b => ?_, fun j a => ?_⟩)
        · unfold kr_m
          by_cases p : c = m_kept_
          · rw [p]; rfl
          rw [cw_row_ne p, cw_put_ne b]
          by_cases q : c = m_drawnMoved_
          · rw [q, cw_row_eq, cw_row_eq, ← e1]
          rw [cw_row_ne q, cw_row_ne q, (P_sU hP).1 c a b, cw_put_ne b]; unfold kr_m; rw [cw_row_ne p]; exact bc c b (U_n a (by decide))
        · unfold kr_m
          rw [cw_row_ne (by decide), cw_row_ne (by decide), (P_sU hP).2 j a, cw_put_off (U_n a (by decide))]
          show B m_ j = _
          rw [← eB, cw_row_ne (by decide)]
          by_cases p : j = 53
          · rw [p, cw_put_eq, cw_put_eq]
          · rw [cw_put_off p, cw_put_off p, cw_put_off (U_n a (by decide))]; rfl
      · have ek : B m_kept_ = m m_kept_ := bc _ (by decide) (by decide)
        have e54 : B m_ 54 = sd := by rw [← eB]; rfl
        rw [← ek, ← e54]
        have e3 : kr_m B (B m_kept_) = B := cw_row_self
        rw [e3, cw_put_self rfl]
        exact P_sr
    · refine br_f (show ¬ ((0 : Int) ≠ 0) by decide) ?_
      show cw_C _ _ [vr m_, vi (-1)] (m) _
      refine M_refuses hm (by decide) (hr 1 (by decide) (by decide)) ⟨(rf_ok hm), ?_⟩
      show Q (some (vi (-1))) (rf_m m (-1))
      exact h0 (by omega)
  · refine br_t (show (0 : Int) = 0 by decide) ?_
    show cw_C _ _ [vr m_, vi (-1)] (m) _
    refine M_refuses hm (by decide) (hr 1 (by decide) (by decide)) ⟨(rf_ok hm), ?_⟩
    show Q (some (vi (-1))) (rf_m m (-1))
    exact h0 (by omega)
