/-! Marks tried: all of them (wip/whole/tools/m144.py). -/
def sp_R (m : cw_M) (D : Nat) (n : Int) : Prop := ∀ (Q : Option cw_V → cw_M → Prop) (tr : Int → Int) (L a b c : Int), (0 ≤ L ∧ L ≤ 18) → (∀ j, 0 ≤ j → j < n → (m x_will_marks_) j ≤ tr j ∧ tr j ≤ 3) → sp_o (m x_forest_above_) tr n 0 a → sp_o (m x_forest_above_) tr n 1 b → sp_o (m x_forest_above_) tr n 2 c → (∀ tr', sp_T (m x_will_marks_) (m x_settler_wrong_) (m x_forest_above_) (m x_forest_ 5) n L tr tr' → Q (some (vi 1)) (sp_m m tr' x_forest_ x_will_marks_)) → (∀ tr', sp_a n tr' tr → sp_F (m x_will_marks_) (m x_settler_wrong_) (m x_forest_above_) (m x_forest_ 5) n L tr → Q (some (vi 0)) (sp_m m tr' x_forest_ x_will_marks_)) → cw_C D k_Se_spread [vr x_settler_, vi n, vi L, vl a, vl b, vl c] (sp_m m tr x_forest_ x_will_marks_) Q
theorem Se_sp165 {D : Nat} {m : cw_M} {Q : Option cw_V → cw_M → Prop} (hm0 : la_ok m) {tr : Int → Int} {n L a b c rm fr tp mk : Int} {w13 w14 w15 w16 w17 w18 w19 w20 w21 : cw_V} (hw : 0 ≤ (m x_forest_ 5) ∧ (m x_forest_ 5) ≤ 6) (hle : ∀ j, 0 ≤ j → j < 6 → 0 ≤ (m x_will_marks_) j ∧ (m x_will_marks_) j ≤ 3) (hn : 0 ≤ n ∧ n < (m x_forest_ 5)) (hrec : sp_R m D (n + 1)) (hL : 0 ≤ L ∧ L ≤ 18) (hpre : ∀ j, 0 ≤ j → j < n → (m x_will_marks_) j ≤ tr j ∧ tr j ≤ 3) (ho0 : sp_o (m x_forest_above_) tr n 0 a) (ho1 : sp_o (m x_forest_above_) tr n 1 b) (ho2 : sp_o (m x_forest_above_) tr n 2 c) (h1 : ∀ tr', sp_T (m x_will_marks_) (m x_settler_wrong_) (m x_forest_above_) (m x_forest_ 5) n L tr tr' → Q (some (vi 1)) (sp_m m tr' x_forest_ x_will_marks_)) (h0 : ∀ tr', sp_a n tr' tr → sp_F (m x_will_marks_) (m x_settler_wrong_) (m x_forest_above_) (m x_forest_ 5) n L tr → Q (some (vi 0)) (sp_m m tr' x_forest_ x_will_marks_)) (hrm : rm = e_sm (fun _ => 3) (m x_will_marks_) (m x_forest_ 5).toNat - e_sm (fun _ => 3) (m x_will_marks_) (n + 1).toNat) (htp : tp = min 3 ((m x_will_marks_) n + L)) (hmk : (m x_will_marks_) n ≤ mk ∧ mk ≤ (m x_will_marks_) n + max 0 (L - rm)) (hmk4 : mk ≤ 30) (tr1 : Int → Int) (ha1 : sp_a n tr1 tr) : cw_R (D + 1) k_Se_spread 165 [vr x_settler_, vi n, vi L, vl a, none, vl b, none, vl c, none, vi rm, vi fr, vi tp, vi mk, w13, w14, w15, w16, w17, w18, w19, w20, w21] [] (sp_m m tr1 x_forest_ x_will_marks_) Q := by
  have ln := hle n hn.1 (by omega)
  have lp : ∀ (r : Nat) (mk : Int) (tr1 : Int → Int) (w13 w14 w15 w16 w17 w18 w19 w20 w21 : cw_V), 31 < mk + r → ((m x_will_marks_) n ≤ mk ∧ mk ≤ 30) → (sp_a n tr1 tr) → (∀ v, sp_a n v tr → sp_g (m x_will_marks_) (m x_settler_wrong_) (m x_forest_above_) (m x_forest_ 5) v → e_sm v (m x_will_marks_) (m x_forest_ 5).toNat - e_sm v (m x_will_marks_) n.toNat = L → mk ≤ v n) → cw_R (D + 1) k_Se_spread 165 [vr x_settler_, vi n, vi L, vl a, none, vl b, none, vl c, none, vi rm, vi fr, vi tp, vi mk, w13, w14, w15, w16, w17, w18, w19, w20, w21] [] (sp_m m tr1 x_forest_ x_will_marks_) Q := by
    intro r
    induction r with
    | zero =>
      intro mk tr1 w13 w14 w15 w16 w17 w18 w19 w20 w21 hr hmk ha1 hlow
      exfalso; omega
    | succ r ih =>
      intro mk tr1 w13 w14 w15 w16 w17 w18 w19 w20 w21 hr hmk ha1 hlow
      have hm2 : la_ok (sp_m m tr1 x_forest_ x_will_marks_) := sp_m_ok hm0
      refine la_go_R hm2 19 [165, 194] ?_
      refine And.intro (fun (c21 : tp < mk) => ?_) (fun (c21 : ¬ (tp < mk)) => ?_)
      · refine And.intro (Or.inl rfl) ?_
        show Q (some (vi 0)) (sp_m m tr1 x_forest_ x_will_marks_)
        exact h0 tr1 ha1 (fun v x g s => by have q1 := hlow v x g s; have q2 := (sp_lo hn hrm g s).2; omega)
      · refine And.intro (show 0 ≤ n ∧ n < 6 by omega) ?_
        have hm22 : la_ok (cw_put (sp_m m tr1 x_forest_ x_will_marks_) x_settler_trial_ n mk) := la_put hm2 (by decide) (Or.inr (by decide))
        show cw_R _ _ 194 [vr x_settler_, vi n, vi L, vl a, none, vl b, none, vl c, none, vi rm, vi fr, vi tp, vi mk, vl a, none, vl b, none, vl c, none, vi 0, w20, w21] [] (cw_put (sp_m m tr1 x_forest_ x_will_marks_) x_settler_trial_ n mk) _
        rw [sp_m_ptr]
        have hm23 : la_ok (sp_m m (cw_up tr1 n mk) x_forest_ x_will_marks_) := sp_m_ok hm0
        refine Se_sp194 hm0 (by omega) (fun x y z w20 w21 hx hy hz => ?_)
        have eT : cw_up tr1 n mk n = mk := cw_up_eq
        have aT : sp_a n (cw_up tr1 n mk) tr := fun j a b => by rw [cw_up_ne (by omega)]; exact ha1 j a b
        have hox := sp_qo hn.1 ho0 aT eT hx
        have hoy := sp_qo hn.1 ho1 aT eT hy
        have hoz := sp_qo hn.1 ho2 aT eT hz
        have hpre2 : ∀ j, 0 ≤ j → j < n + 1 → (m x_will_marks_) j ≤ cw_up tr1 n mk j ∧ cw_up tr1 n mk j ≤ 3 := fun j x y => by
          by_cases z : j = n
          · rw [z, eT]; omega
          · rw [aT j x (by omega)]; exact hpre j x (by omega)
        refine la_go_R (sp_m_ok hm0) 22 [165] ?_
        refine And.intro (show -2147483648 ≤ n + 1 ∧ n + 1 < 2147483648 by omega) ?_
        refine And.intro (show 0 ≤ n ∧ n < 6 by omega) ?_
        refine And.intro (show -2147483648 ≤ mk - (m x_will_marks_ n) ∧ mk - (m x_will_marks_ n) < 2147483648 by omega) ?_
        refine And.intro (show -2147483648 ≤ L - (mk - (m x_will_marks_ n)) ∧ L - (mk - (m x_will_marks_ n)) < 2147483648 by omega) ?_
        show cw_C _ _ [vr x_settler_, vi (n + 1), vi (L - (mk - (m x_will_marks_ n))), vl x, vl y, vl z] (sp_m m (cw_up tr1 n mk) x_forest_ x_will_marks_) _
        refine hrec _ (cw_up tr1 n mk) _ _ _ _ (by omega) hpre2 hox hoy hoz (fun (tr2 : Int → Int) hT2 => ⟨(sp_m_ok hm0), ?_⟩) (fun (tr2 : Int → Int) ha2 hF2 => ⟨(sp_m_ok hm0), ?_⟩)
        · refine br_f (show ¬ ((1 : Int) = 0) by decide) ?_
          refine And.intro (Or.inr rfl) ?_
          show Q (some (vi 1)) (sp_m m tr2 x_forest_ x_will_marks_)
          exact h1 tr2 (sp_Tn (fun j x y => (hle j x (by omega)).1) hn aT eT hlow hT2)
        · refine br_t (show (0 : Int) = 0 by decide) ?_
          refine And.intro (show -2147483648 ≤ mk + 1 ∧ mk + 1 < 2147483648 by omega) ?_
          show cw_R _ _ 165 [vr x_settler_, vi n, vi L, vl a, none, vl b, none, vl c, none, vi rm, vi fr, vi tp, vi (mk + 1), vl x, none, vl y, none, vl z, none, vi n, w20, w21] [] (sp_m m tr2 x_forest_ x_will_marks_) _
          refine ih (mk + 1) tr2 _ _ _ _ _ _ _ _ _ (by omega) (by omega) (sp_at (fun j x y => ha2 j x (by omega)) aT) (fun v x g s => ?_)
          have lo := hlow v x g s
          by_cases q : v n = mk
          · exfalso
            refine hF2 v (fun j x1 y1 => ?_) g (by rw [e_sms hn.1, q]; omega)
            by_cases z : j = n
            · rw [z, q, eT]
            · rw [x j x1 (by omega), aT j x1 (by omega)]
          · omega
  exact lp 32 mk tr1 w13 w14 w15 w16 w17 w18 w19 w20 w21 (by omega) (by omega) ha1 (fun v x g s => by have q1 := (sp_lo hn hrm g s).1; omega)
theorem Se_spread {d : Nat} {m : cw_M} (hm0 : la_ok m) (hw : 0 ≤ (m x_forest_ 5) ∧ (m x_forest_ 5) ≤ 6) (hle : ∀ j, 0 ≤ j → j < 6 → 0 ≤ (m x_will_marks_) j ∧ (m x_will_marks_) j ≤ 3) : ∀ (f : Nat) (n : Int), 0 ≤ n → n + f = (m x_forest_ 5) → sp_R m (d + f) n := by
  intro f
  induction f with
  | zero =>
    intro n hn hf Q tr L a b c hL hpre ho0 ho1 ho2 h1 h0
    have hm2 : la_ok (sp_m m tr x_forest_ x_will_marks_) := sp_m_ok hm0
    have hn0 : n = (m x_forest_ 5) := by omega
    refine la_go_C hm2 52 [98] ?_
    refine br_f (show ¬ ((75497857 : Int) = 0) by decide) ?_
    refine br_t (show (37749160 : Int) ≠ 0 by decide) ?_
    refine br_f (show ¬ (n < m x_forest_ 5) by omega) ?_
    refine And.intro (fun (c21 : L ≠ 0) => ?_) (fun (c21 : ¬ (L ≠ 0)) => ?_)
    · refine And.intro (Or.inl rfl) ?_
      show Q (some (vi 0)) (sp_m m tr x_forest_ x_will_marks_)
      subst hn0
      first
        | exact h0 tr (fun _ _ _ => rfl) (sp_FL (by omega))
        | exact h0 tr (fun _ _ _ => rfl) (sp_Fp (part := 0) (by omega) (fun z => by have q := (sp_w (le := (m x_will_marks_)) (wr := (m x_settler_wrong_)) (by omega) ho0).mpr z; omega))
        | exact h0 tr (fun _ _ _ => rfl) (sp_Fp (part := 1) (by omega) (fun z => by have q := (sp_w (le := (m x_will_marks_)) (wr := (m x_settler_wrong_)) (by omega) ho1).mpr z; omega))
        | exact h0 tr (fun _ _ _ => rfl) (sp_Fp (part := 2) (by omega) (fun z => by have q := (sp_w (le := (m x_will_marks_)) (wr := (m x_settler_wrong_)) (by omega) ho2).mpr z; omega))
    · refine And.intro (show 0 ≤ 0 ∧ 0 < 3 by omega) ?_
      refine And.intro (fun (c22 : cw_lc (cw_land (m x_settler_wrong_ 0) (cw_lxor a (-1))) 0 ≠ 0) => ?_) (fun (c22 : ¬ (cw_lc (cw_land (m x_settler_wrong_ 0) (cw_lxor a (-1))) 0 ≠ 0)) => ?_)
      · refine And.intro (Or.inl rfl) ?_
        show Q (some (vi 0)) (sp_m m tr x_forest_ x_will_marks_)
        subst hn0
        first
          | exact h0 tr (fun _ _ _ => rfl) (sp_FL (by omega))
          | exact h0 tr (fun _ _ _ => rfl) (sp_Fp (part := 0) (by omega) (fun z => by have q := (sp_w (le := (m x_will_marks_)) (wr := (m x_settler_wrong_)) (by omega) ho0).mpr z; omega))
          | exact h0 tr (fun _ _ _ => rfl) (sp_Fp (part := 1) (by omega) (fun z => by have q := (sp_w (le := (m x_will_marks_)) (wr := (m x_settler_wrong_)) (by omega) ho1).mpr z; omega))
          | exact h0 tr (fun _ _ _ => rfl) (sp_Fp (part := 2) (by omega) (fun z => by have q := (sp_w (le := (m x_will_marks_)) (wr := (m x_settler_wrong_)) (by omega) ho2).mpr z; omega))
      · refine And.intro (show 0 ≤ 1 ∧ 1 < 3 by omega) ?_
        refine And.intro (fun (c23 : cw_lc (cw_land (m x_settler_wrong_ 1) (cw_lxor b (-1))) 0 ≠ 0) => ?_) (fun (c23 : ¬ (cw_lc (cw_land (m x_settler_wrong_ 1) (cw_lxor b (-1))) 0 ≠ 0)) => ?_)
        · refine And.intro (Or.inl rfl) ?_
          show Q (some (vi 0)) (sp_m m tr x_forest_ x_will_marks_)
          subst hn0
          first
            | exact h0 tr (fun _ _ _ => rfl) (sp_FL (by omega))
            | exact h0 tr (fun _ _ _ => rfl) (sp_Fp (part := 0) (by omega) (fun z => by have q := (sp_w (le := (m x_will_marks_)) (wr := (m x_settler_wrong_)) (by omega) ho0).mpr z; omega))
            | exact h0 tr (fun _ _ _ => rfl) (sp_Fp (part := 1) (by omega) (fun z => by have q := (sp_w (le := (m x_will_marks_)) (wr := (m x_settler_wrong_)) (by omega) ho1).mpr z; omega))
            | exact h0 tr (fun _ _ _ => rfl) (sp_Fp (part := 2) (by omega) (fun z => by have q := (sp_w (le := (m x_will_marks_)) (wr := (m x_settler_wrong_)) (by omega) ho2).mpr z; omega))
        · refine And.intro (show 0 ≤ 2 ∧ 2 < 3 by omega) ?_
          refine And.intro (fun (c24 : cw_lc (cw_land (m x_settler_wrong_ 2) (cw_lxor c (-1))) 0 ≠ 0) => ?_) (fun (c24 : ¬ (cw_lc (cw_land (m x_settler_wrong_ 2) (cw_lxor c (-1))) 0 ≠ 0)) => ?_)
          · refine And.intro (Or.inl rfl) ?_
            show Q (some (vi 0)) (sp_m m tr x_forest_ x_will_marks_)
            subst hn0
            first
              | exact h0 tr (fun _ _ _ => rfl) (sp_FL (by omega))
              | exact h0 tr (fun _ _ _ => rfl) (sp_Fp (part := 0) (by omega) (fun z => by have q := (sp_w (le := (m x_will_marks_)) (wr := (m x_settler_wrong_)) (by omega) ho0).mpr z; omega))
              | exact h0 tr (fun _ _ _ => rfl) (sp_Fp (part := 1) (by omega) (fun z => by have q := (sp_w (le := (m x_will_marks_)) (wr := (m x_settler_wrong_)) (by omega) ho1).mpr z; omega))
              | exact h0 tr (fun _ _ _ => rfl) (sp_Fp (part := 2) (by omega) (fun z => by have q := (sp_w (le := (m x_will_marks_)) (wr := (m x_settler_wrong_)) (by omega) ho2).mpr z; omega))
          · refine And.intro (Or.inr rfl) ?_
            show Q (some (vi 1)) (sp_m m tr x_forest_ x_will_marks_)
            subst hn0
            have p0 := (sp_w (le := (m x_will_marks_)) (wr := (m x_settler_wrong_)) (by omega) ho0).mp (by omega)
            have p1 := (sp_w (le := (m x_will_marks_)) (wr := (m x_settler_wrong_)) (by omega) ho1).mp (by omega)
            have p2 := (sp_w (le := (m x_will_marks_)) (wr := (m x_settler_wrong_)) (by omega) ho2).mp (by omega)
            rw [show L = 0 by omega] at h1
            refine h1 tr (sp_T0 ⟨hpre, fun part q0 q1 => ?_⟩)
            rcases (by omega : part = 0 ∨ part = 1 ∨ part = 2) with e | e | e <;> subst e
            · exact p0
            · exact p1
            · exact p2
  | succ f ih0 =>
    intro n hn hf Q tr L a b c hL hpre ho0 ho1 ho2 h1 h0
    have hm2 : la_ok (sp_m m tr x_forest_ x_will_marks_) := sp_m_ok hm0
    have ih := ih0 (n + 1) (by omega) (by omega)
    have ln := hle n hn (by omega)
    have e3 := e_3b (le := (m x_will_marks_)) (n := n + 1) (by omega) hle ((m x_forest_ 5) - (n + 1)).toNat (by omega)
    rw [show n + 1 + (((((m x_forest_ 5) - (n + 1)).toNat : Nat)) : Int) = (m x_forest_ 5) by omega] at e3
    show cw_C (d + f + 1) _ _ _ _
    refine la_go_C hm2 20 [98] ?_
    refine br_f (show ¬ ((75497857 : Int) = 0) by decide) ?_
    refine br_t (show (37749160 : Int) ≠ 0 by decide) ?_
    refine br_t (show n < m x_forest_ 5 by omega) ?_
    refine And.intro (show -2147483648 ≤ n + 1 ∧ n + 1 < 2147483648 by omega) ?_
    show cw_R _ _ 98 [vr x_settler_, vi n, vi L, vl a, none, vl b, none, vl c, none, vi 0, vi (n + 1), none, none, none, none, none, none, none, none, none, none, none] [] (sp_m m tr x_forest_ x_will_marks_) _
    refine Se_sp98 hm0 hw hle ⟨hn, by omega⟩ ?_
    refine la_go_R hm2 25 [165] ?_
    refine And.intro (show 0 ≤ n ∧ n < 6 by omega) ?_
    refine And.intro (show -2147483648 ≤ L - (e_sm (fun _ => 3) (m x_will_marks_) (m x_forest_ 5).toNat - e_sm (fun _ => 3) (m x_will_marks_) (n + 1).toNat) ∧ L - (e_sm (fun _ => 3) (m x_will_marks_) (m x_forest_ 5).toNat - e_sm (fun _ => 3) (m x_will_marks_) (n + 1).toNat) < 2147483648 by omega) ?_
    show cw_C _ _ [vi 0, vi (L - (e_sm (fun _ => 3) (m x_will_marks_) (m x_forest_ 5).toNat - e_sm (fun _ => 3) (m x_will_marks_) (n + 1).toNat))] (sp_m m tr x_forest_ x_will_marks_) _
    refine Jm_max ⟨hm2, ?_⟩
    refine And.intro (show -2147483648 ≤ (m x_will_marks_ n) + (max 0 (L - (e_sm (fun _ => 3) (m x_will_marks_) (m x_forest_ 5).toNat - e_sm (fun _ => 3) (m x_will_marks_) (n + 1).toNat))) ∧ (m x_will_marks_ n) + (max 0 (L - (e_sm (fun _ => 3) (m x_will_marks_) (m x_forest_ 5).toNat - e_sm (fun _ => 3) (m x_will_marks_) (n + 1).toNat))) < 2147483648 by omega) ?_
    refine And.intro (show 0 ≤ n ∧ n < 6 by omega) ?_
    refine And.intro (show -2147483648 ≤ (m x_will_marks_ n) + L ∧ (m x_will_marks_ n) + L < 2147483648 by omega) ?_
    show cw_C _ _ [vi 3, vi ((m x_will_marks_ n) + L)] (sp_m m tr x_forest_ x_will_marks_) _
    refine Jm_min ⟨hm2, ?_⟩
    show cw_R _ _ 165 [vr x_settler_, vi n, vi L, vl a, none, vl b, none, vl c, none, vi (e_sm (fun _ => 3) (m x_will_marks_) (m x_forest_ 5).toNat - e_sm (fun _ => 3) (m x_will_marks_) (n + 1).toNat), vi ((m x_will_marks_ n) + (max 0 (L - (e_sm (fun _ => 3) (m x_will_marks_) (m x_forest_ 5).toNat - e_sm (fun _ => 3) (m x_will_marks_) (n + 1).toNat)))), vi (min 3 ((m x_will_marks_ n) + L)), vi ((m x_will_marks_ n) + (max 0 (L - (e_sm (fun _ => 3) (m x_will_marks_) (m x_forest_ 5).toNat - e_sm (fun _ => 3) (m x_will_marks_) (n + 1).toNat)))), none, none, none, none, none, none, none, none, none] [] (sp_m m tr x_forest_ x_will_marks_) _
    refine Se_sp165 hm0 hw hle ⟨hn, by omega⟩ ih hL hpre ho0 ho1 ho2 h1 h0 rfl rfl ⟨by omega, by omega⟩ (by omega) tr (fun _ _ _ => rfl)
