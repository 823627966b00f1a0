/-! An image is kept, by the class (wip/whole/tools/m160.py). -/
theorem nc_cd {m : cw_M} {t n : Int} : cw_nc m t n = j_cd (m (-1) 0) n t := rfl
theorem cd_r {c n t : Int} (hn : 0 ≤ n ∧ n < 16384) (ht : 0 ≤ t ∧ t < 64) : c * 1048576 ≤ j_cd c n t ∧ j_cd c n t < (c + 1) * 1048576 ∧ cw_tg (j_cd c n t) = t ∧ cw_ln (j_cd c n t) = n ∧ cw_ce (j_cd c n t) = c := by
  unfold j_cd cw_tg cw_ln cw_ce
  omega
theorem new_ne {m : cw_M} {t n z : Int} (h1 : z ≠ -1) (h2 : z ≠ -2) (h3 : z ≠ cw_nc m t n) : cw_new m t n z = m z := by
  funext j
  unfold cw_new
  rw [if_neg h3, if_neg h1, if_neg (fun q => h2 q.1)]
theorem new_N {m : cw_M} {t n : Int} (hm : 0 ≤ m (-1) 0) (hn : 0 ≤ n) (ht : 0 ≤ t) : cw_new m t n (-1) 0 = m (-1) 0 + 1 ∧ cw_new m t n (-1) 1 = m (-1) 1 + n := by
  have h : (-1 : Int) ≠ cw_nc m t n := by unfold cw_nc; omega
  unfold cw_new
  rw [if_neg h, if_neg h, if_pos rfl, if_pos rfl, if_pos rfl, if_neg (by decide), if_pos rfl]
  exact ⟨rfl, rfl⟩
theorem la_nw {m : cw_M} {t n : Int} (hm : la_ok m) (hn : 0 ≤ n ∧ n < 16384) (ht : 0 ≤ t ∧ t < 64) : la_ok (cw_new m t n) := by
  have h0 := hm.1
  refine ⟨by rw [(new_N (by omega) hn.1 ht.1).1]; omega, fun e he => ?_⟩
  have l := la_lok e he
  have c := cd_r (c := m (-1) 0) hn ht
  rw [new_ne (by omega) (by omega) (fun q => by
    rw [nc_cd] at q
    have := l.2.2.1
    rw [q, c.2.2.2.2] at this
    omega)]
  exact hm.2 e he
/-- what was made so far of a will that is made -/
def wi_I (m : cw_M) (J c a s : Int) (f : Int → Int) (X : cw_M) : Prop := (X (-1) 0 = a ∧ X (-1) 1 = s) ∧ (∀ z, z ≠ -1 → z ≠ -2 → z < c * 1048576 → X z = m z) ∧ ∀ i, f i ≠ 0 → X J i = f i
section WI
variable {m X : cw_M} {J c a s : Int} {f : Int → Int}
theorem wi_p (hJ : J = j_cd c 14 9) (hc : 124 ≤ c) (h : wi_I m J c a s f X) {i v : Int} (hi : f i = 0) : wi_I m J c a s f (cw_put X J i v) := by
  have r := cd_r (c := c) (n := 14) (t := 9) (by decide) (by decide)
  rw [← hJ] at r
  refine ⟨by rw [cw_put_ne (by omega)]; exact h.1, fun z a b e => by rw [cw_put_ne (by omega)]; exact h.2.1 z a b e, fun j q => ?_⟩
  by_cases e : j = i
  · rw [e] at q; exact absurd hi q
  · rw [cw_put_off e]; exact h.2.2 j q
theorem wi_n (hJ : J = j_cd c 14 9) (hc : 124 ≤ c) (h : wi_I m J c a s f X) (ha : c < a) {i n t : Int} (hn : 0 ≤ n ∧ n < 16384) (ht : 0 ≤ t ∧ t < 64) (hi : f i = 0) : wi_I m J c (a + 1) (s + n) (cw_up f i (j_cd a n t)) (cw_put (cw_new X t n) J i (cw_nc X t n)) := by
  have r := cd_r (c := c) (n := 14) (t := 9) (by decide) (by decide)
  rw [← hJ] at r
  have r2 := cd_r (c := a) hn ht
  have en : cw_nc X t n = j_cd a n t := by rw [nc_cd, h.1.1]
  have nN := new_N (m := X) (t := t) (n := n) (by rw [h.1.1]; omega) hn.1 ht.1
  refine ⟨?_, fun z x y e => ?_, fun j q => ?_⟩
  · rw [cw_put_ne (by omega), nN.1, nN.2, h.1.1, h.1.2]; exact ⟨rfl, rfl⟩
  · rw [cw_put_ne (by omega), new_ne x y (by rw [en]; omega)]; exact h.2.1 z x y e
  · by_cases e : j = i
    · rw [e, cw_put_eq, cw_up_eq, en]
    · rw [cw_up_ne e] at q
      rw [cw_put_off e, cw_up_ne e, new_ne (by omega) (by omega) (by rw [en]; omega)]; exact h.2.2 j q
theorem wi_t (hJ : J = j_cd c 14 9) (hc : 124 ≤ c) (h : wi_I m J c a s f X) {i v : Int} (h5 : f 5 = j_cd (c + 4) 4 40) : wi_I m J c a s f (cw_put X (X J 5) i v) := by
  have r := cd_r (c := c) (n := 14) (t := 9) (by decide) (by decide)
  rw [← hJ] at r
  have r2 := cd_r (c := c + 4) (n := 4) (t := 40) (by decide) (by decide)
  have e5 : X J 5 = j_cd (c + 4) 4 40 := by rw [h.2.2 5 (by rw [h5]; omega), h5]
  rw [e5]
  refine ⟨by rw [cw_put_ne (by omega)]; exact h.1, fun z a b e => by rw [cw_put_ne (by omega)]; exact h.2.1 z a b e, fun j q => by rw [cw_put_ne (by omega)]; exact h.2.2 j q⟩
end WI
theorem Wi_init {d : Nat} {m : cw_M} {Q : Option cw_V → cw_M → Prop} {J c s : Int} (hJ : J = j_cd c 14 9) (hc : 124 ≤ c) (hN : m (-1) 0 = c + 1) (hs : m (-1) 1 = s) (hr : c + 9 ≤ 600000 ∧ s + 46 ≤ 7000000) (hQ : ∀ X, j_w X J c → X (-1) 0 = c + 9 → X (-1) 1 = s + 46 → (∀ z, z ≠ -1 → z ≠ -2 → z < c * 1048576 → X z = m z) → Q none X) : cw_C (d + 1) k_Wi_init [vr J] m Q := by
  have r := cd_r (c := c) (n := 14) (t := 9) (by decide) (by decide)
  rw [← hJ] at r
  have hJ0 : J ≠ 0 := by omega
  have hJ9 : cw_tg J = 9 := r.2.2.1
  have hJo : cw_own J := by unfold cw_own; omega
  have c0 : wi_I m J c (c + 1) s (fun _ => 0) m := ⟨⟨hN, hs⟩, fun _ _ _ _ => rfl, fun i q => absurd rfl q⟩
  refine cw_go_C 6 [9] ?_
  refine And.intro hJ0 (And.intro ⟨hJ9, hJo⟩ ?_)
  show cw_R _ _ 9 [vr J] [] (cw_put m J 0 0) _
  have c1 := wi_p (v := 0) hJ hc c0 (i := 0) rfl
  generalize cw_put m J 0 0 = X1 at *
  refine cw_go_R 5 [17] ?_
  refine And.intro ⟨by decide, by rw [c1.1.1, c1.1.2]; exact ⟨by unfold cw_LC; omega, by unfold cw_LS; omega⟩⟩ (And.intro ⟨hJ9, hJo⟩ ?_)
  show cw_R _ _ 17 [vr J] [] (cw_put (cw_new X1 40 7) J 1 (cw_nc X1 40 7)) _
  have c2 := wi_n (i := 1) (n := 7) (t := 40) hJ hc c1 (by omega) (by decide) (by decide) rfl
  generalize cw_put (cw_new X1 40 7) J 1 (cw_nc X1 40 7) = X2 at *
  refine cw_go_R 5 [25] ?_
  refine And.intro ⟨by decide, by rw [c2.1.1, c2.1.2]; exact ⟨by unfold cw_LC; omega, by unfold cw_LS; omega⟩⟩ (And.intro ⟨hJ9, hJo⟩ ?_)
  show cw_R _ _ 25 [vr J] [] (cw_put (cw_new X2 40 6) J 2 (cw_nc X2 40 6)) _
  have c3 := wi_n (i := 2) (n := 6) (t := 40) hJ hc c2 (by omega) (by decide) (by decide) rfl
  generalize cw_put (cw_new X2 40 6) J 2 (cw_nc X2 40 6) = X3 at *
  refine cw_go_R 5 [33] ?_
  refine And.intro ⟨by decide, by rw [c3.1.1, c3.1.2]; exact ⟨by unfold cw_LC; omega, by unfold cw_LS; omega⟩⟩ (And.intro ⟨hJ9, hJo⟩ ?_)
  show cw_R _ _ 33 [vr J] [] (cw_put (cw_new X3 40 6) J 3 (cw_nc X3 40 6)) _
  have c4 := wi_n (i := 3) (n := 6) (t := 40) hJ hc c3 (by omega) (by decide) (by decide) rfl
  generalize cw_put (cw_new X3 40 6) J 3 (cw_nc X3 40 6) = X4 at *
  refine cw_go_R 4 [39] ?_
  refine And.intro ⟨hJ9, hJo⟩ ?_
  show cw_R _ _ 39 [vr J] [] (cw_put X4 J 4 63) _
  have c5 := wi_p (v := 63) hJ hc c4 (i := 4) rfl
  generalize cw_put X4 J 4 63 = X5 at *
  refine cw_go_R 5 [46] ?_
  refine And.intro ⟨by decide, by rw [c5.1.1, c5.1.2]; exact ⟨by unfold cw_LC; omega, by unfold cw_LS; omega⟩⟩ (And.intro ⟨hJ9, hJo⟩ ?_)
  show cw_R _ _ 46 [vr J] [] (cw_put (cw_new X5 40 4) J 5 (cw_nc X5 40 4)) _
  have c6 := wi_n (i := 5) (n := 4) (t := 40) hJ hc c5 (by omega) (by decide) (by decide) rfl
  generalize cw_put (cw_new X5 40 4) J 5 (cw_nc X5 40 4) = X6 at *
  refine cw_go_R 4 [51] ?_
  refine And.intro ⟨hJ9, hJo⟩ ?_
  show cw_R _ _ 51 [vr J] [] (cw_put X6 J 6 0) _
  have c7 := wi_p (v := 0) hJ hc c6 (i := 6) rfl
  generalize cw_put X6 J 6 0 = X7 at *
  refine cw_go_R 5 [58] ?_
  refine And.intro ⟨by decide, by rw [c7.1.1, c7.1.2]; exact ⟨by unfold cw_LC; omega, by unfold cw_LS; omega⟩⟩ (And.intro ⟨hJ9, hJo⟩ ?_)
  show cw_R _ _ 58 [vr J] [] (cw_put (cw_new X7 40 5) J 7 (cw_nc X7 40 5)) _
  have c8 := wi_n (i := 7) (n := 5) (t := 40) hJ hc c7 (by omega) (by decide) (by decide) rfl
  generalize cw_put (cw_new X7 40 5) J 7 (cw_nc X7 40 5) = X8 at *
  refine cw_go_R 4 [63] ?_
  refine And.intro ⟨hJ9, hJo⟩ ?_
  show cw_R _ _ 63 [vr J] [] (cw_put X8 J 8 0) _
  have c9 := wi_p (v := 0) hJ hc c8 (i := 8) rfl
  generalize cw_put X8 J 8 0 = X9 at *
  refine cw_go_R 5 [71] ?_
  refine And.intro ⟨by decide, by rw [c9.1.1, c9.1.2]; exact ⟨by unfold cw_LC; omega, by unfold cw_LS; omega⟩⟩ (And.intro ⟨hJ9, hJo⟩ ?_)
  show cw_R _ _ 71 [vr J] [] (cw_put (cw_new X9 40 6) J 9 (cw_nc X9 40 6)) _
  have c10 := wi_n (i := 9) (n := 6) (t := 40) hJ hc c9 (by omega) (by decide) (by decide) rfl
  generalize cw_put (cw_new X9 40 6) J 9 (cw_nc X9 40 6) = X10 at *
  refine cw_go_R 5 [79] ?_
  refine And.intro ⟨by decide, by rw [c10.1.1, c10.1.2]; exact ⟨by unfold cw_LC; omega, by unfold cw_LS; omega⟩⟩ (And.intro ⟨hJ9, hJo⟩ ?_)
  show cw_R _ _ 79 [vr J] [] (cw_put (cw_new X10 40 6) J 10 (cw_nc X10 40 6)) _
  have c11 := wi_n (i := 10) (n := 6) (t := 40) hJ hc c10 (by omega) (by decide) (by decide) rfl
  generalize cw_put (cw_new X10 40 6) J 10 (cw_nc X10 40 6) = X11 at *
  refine cw_go_R 4 [84] ?_
  refine And.intro ⟨hJ9, hJo⟩ ?_
  show cw_R _ _ 84 [vr J] [] (cw_put X11 J 11 0) _
  have c12 := wi_p (v := 0) hJ hc c11 (i := 11) rfl
  generalize cw_put X11 J 11 0 = X12 at *
  refine cw_go_R 5 [93] ?_
  refine And.intro ⟨by decide, by rw [c12.1.1, c12.1.2]; exact ⟨by unfold cw_LC; omega, by unfold cw_LS; omega⟩⟩ (And.intro ⟨hJ9, hJo⟩ ?_)
  show cw_R _ _ 93 [vr J] [] (cw_put (cw_new X12 44 6) J 12 (cw_nc X12 44 6)) _
  have c13 := wi_n (i := 12) (n := 6) (t := 44) hJ hc c12 (by omega) (by decide) (by decide) rfl
  generalize cw_put (cw_new X12 44 6) J 12 (cw_nc X12 44 6) = X13 at *
  refine cw_go_R 4 [98] ?_
  refine And.intro ⟨hJ9, hJo⟩ ?_
  show cw_R _ _ 98 [vr J] [] (cw_put X13 J 13 (-1)) _
  have c14 := wi_p (v := (-1)) hJ hc c13 (i := 13) rfl
  generalize cw_put X13 J 13 (-1) = X14 at *
  have e50 : X14 J 5 = j_cd (c + 4) 4 40 := by rw [c14.2.2 5 (by show j_cd (c + 1 + 1 + 1 + 1) 4 40 ≠ 0; unfold j_cd; omega)]; show j_cd (c + 1 + 1 + 1 + 1) 4 40 = _; congr 1; omega
  have h50 := cd_r (c := c + 4) (n := 4) (t := 40) (by decide) (by decide)
  refine cw_go_R 6 [107] ?_
  refine And.intro hJ9 (And.intro ?_ ?_)
  · show (cw_tg (X14 J 5) = 40 ∧ cw_own (X14 J 5)) ∧ _ ∧ _ < cw_ln (X14 J 5)
    rw [e50]; unfold cw_own; omega
  show cw_R _ _ 107 [vr J] [] (cw_put X14 (X14 J 5) 1 1000) _
  have c15 := wi_t (i := 1) (v := 1000) hJ hc c14 (by show j_cd (c + 1 + 1 + 1 + 1) 4 40 = _; congr 1; omega)
  generalize cw_put X14 (X14 J 5) 1 1000 = X15 at *
  have e51 : X15 J 5 = j_cd (c + 4) 4 40 := by rw [c15.2.2 5 (by show j_cd (c + 1 + 1 + 1 + 1) 4 40 ≠ 0; unfold j_cd; omega)]; show j_cd (c + 1 + 1 + 1 + 1) 4 40 = _; congr 1; omega
  have h51 := cd_r (c := c + 4) (n := 4) (t := 40) (by decide) (by decide)
  refine cw_go_R 6 [114] ?_
  refine And.intro hJ9 (And.intro ?_ ?_)
  · show (cw_tg (X15 J 5) = 40 ∧ cw_own (X15 J 5)) ∧ _ ∧ _ < cw_ln (X15 J 5)
    rw [e51]; unfold cw_own; omega
  show cw_R _ _ 114 [vr J] [] (cw_put X15 (X15 J 5) 3 1) _
  have c16 := wi_t (i := 3) (v := 1) hJ hc c15 (by show j_cd (c + 1 + 1 + 1 + 1) 4 40 = _; congr 1; omega)
  generalize cw_put X15 (X15 J 5) 3 1 = X16 at *
  refine cw_go_R 2 [] ?_
  show Q none X16
  have g := fun i z => c16.2.2 i z
  have nz : ∀ b l t, 0 ≤ l → 0 ≤ t → j_cd (c + 1 + b) l t = 0 → 124 ≤ c → 0 ≤ b → False := fun b l t x y z u v => by unfold j_cd at z; omega
  have w1 : X16 J 1 = j_cd (c + 1) 7 40 := by rw [g 1 (by show j_cd (c + 1) 7 40 ≠ 0; unfold j_cd; omega)]; show j_cd (c + 1) 7 40 = _; congr 1; try omega
  have w2 : X16 J 2 = j_cd (c + 2) 6 40 := by rw [g 2 (by show j_cd (c + 1 + 1) 6 40 ≠ 0; unfold j_cd; omega)]; show j_cd (c + 1 + 1) 6 40 = _; congr 1; try omega
  have w3 : X16 J 3 = j_cd (c + 3) 6 40 := by rw [g 3 (by show j_cd (c + 1 + 1 + 1) 6 40 ≠ 0; unfold j_cd; omega)]; show j_cd (c + 1 + 1 + 1) 6 40 = _; congr 1; try omega
  have w5 : X16 J 5 = j_cd (c + 4) 4 40 := by rw [g 5 (by show j_cd (c + 1 + 1 + 1 + 1) 4 40 ≠ 0; unfold j_cd; omega)]; show j_cd (c + 1 + 1 + 1 + 1) 4 40 = _; congr 1; try omega
  have w7 : X16 J 7 = j_cd (c + 5) 5 40 := by rw [g 7 (by show j_cd (c + 1 + 1 + 1 + 1 + 1) 5 40 ≠ 0; unfold j_cd; omega)]; show j_cd (c + 1 + 1 + 1 + 1 + 1) 5 40 = _; congr 1; try omega
  have w9 : X16 J 9 = j_cd (c + 6) 6 40 := by rw [g 9 (by show j_cd (c + 1 + 1 + 1 + 1 + 1 + 1) 6 40 ≠ 0; unfold j_cd; omega)]; show j_cd (c + 1 + 1 + 1 + 1 + 1 + 1) 6 40 = _; congr 1; try omega
  have w10 : X16 J 10 = j_cd (c + 7) 6 40 := by rw [g 10 (by show j_cd (c + 1 + 1 + 1 + 1 + 1 + 1 + 1) 6 40 ≠ 0; unfold j_cd; omega)]; show j_cd (c + 1 + 1 + 1 + 1 + 1 + 1 + 1) 6 40 = _; congr 1; try omega
  have w12 : X16 J 12 = j_cd (c + 8) 6 44 := by rw [g 12 (by show j_cd (c + 1 + 1 + 1 + 1 + 1 + 1 + 1 + 1) 6 44 ≠ 0; unfold j_cd; omega)]; show j_cd (c + 1 + 1 + 1 + 1 + 1 + 1 + 1 + 1) 6 44 = _; congr 1; try omega
  exact hQ X16 ⟨hJ, w1, w2, w3, w5, w7, w9, w10, w12⟩ (by rw [c16.1.1]; omega) (by rw [c16.1.2]; omega) c16.2.1
