/-! The memory behind the constructors keeps the bond; the law from its entry (wip/whole/tools/m177.py). -/
theorem dn_all {P : Int → Prop} {n : Nat} (h : ∀ k : Nat, k < n → P (k : Int)) : ∀ i : Int, 0 ≤ i → i < (n : Int) → P i := fun i a b => by
  have := h i.toNat (by omega)
  rw [show ((i.toNat : Nat) : Int) = i by omega] at this
  exact this
abbrev dn_w : cw_M := dn_lk dn_g
theorem dn_Kr : K_r (dn_w m_kept_) := by
  unfold K_r
  refine ⟨by decide +kernel, dn_all (n := 6) (by decide +kernel), dn_all (n := 6) (by decide +kernel), dn_all (n := 6) (by decide +kernel), by decide +kernel, dn_all (n := 7) (by decide +kernel), by decide +kernel, by decide +kernel, by decide +kernel, by decide +kernel, by decide +kernel, by decide +kernel, by decide +kernel, dn_all (n := 5) (by decide +kernel), dn_all (n := 6) (by decide +kernel), fun i a b => ?_⟩
  rw [show dn_w m_kept_ 49 = 0 by decide +kernel] at b
  omega
theorem dn_Wq (m : cw_M) : W_q (dn_w x_will_ 0) (dn_w x_will_ 4) (dn_w x_will_ 6) (dn_w x_will_ 8) (dn_w x_will_ 11) (dn_w x_will_ 13) (dn_w x_will_owner_) (dn_w x_will_kinds_) (dn_w x_will_marks_) (dn_w x_will_terms_) (dn_w x_will_held_) (dn_w x_will_toldOf_) (dn_w x_will_toldMuch_) (dn_w x_will_lawAt_) m (dn_w m_kept_) := by
  unfold W_q
  refine ⟨by decide +kernel, dn_all (n := 7) (by decide +kernel), dn_all (n := 6) (by decide +kernel), dn_all (n := 6) (by decide +kernel), ⟨by decide +kernel, dn_all (n := 6) (by decide +kernel)⟩, by decide +kernel, by decide +kernel, dn_all (n := 5) (by decide +kernel), by decide +kernel, dn_all (n := 6) (by decide +kernel), by decide +kernel, by decide +kernel, fun i a b => ?_⟩
  rw [show dn_w m_kept_ 49 = 0 by decide +kernel] at b
  omega
theorem dn_z {c : Int} (h : dn_fr c dn_g = true) : dn_w c = fun _ => 0 := funext (fun j => dn_fr_lk h j)
theorem dn_lb : ∀ b : Nat, b < 64 → l_b 0 b = false := by decide +kernel
theorem dn_Fk : F_k (-1) 0 (dn_w x_forest_deep_) (dn_w x_forest_above_) := by
  rw [dn_z (c := x_forest_above_) (by decide +kernel)]
  refine ⟨fun t x t0 t1 => by omega, fun i i0 i1 b hb => ⟨fun q => ?_, fun q => ?_⟩⟩
  · have z := dn_lb b hb
    have q : l_b 0 b = true := q
    rw [z] at q; cases q
  · omega
theorem dn_tab : k_tab (dn_w m_words_) 0 k_WL := ⟨by decide +kernel, by decide +kernel, by decide +kernel, by decide +kernel, ⟨by decide +kernel, by decide +kernel, by decide +kernel, by decide +kernel, ⟨by decide +kernel, by decide +kernel, by decide +kernel, by decide +kernel, ⟨by decide +kernel, by decide +kernel, by decide +kernel, by decide +kernel, ⟨by decide +kernel, by decide +kernel, by decide +kernel, by decide +kernel, ⟨by decide +kernel, by decide +kernel, by decide +kernel, by decide +kernel, ⟨by decide +kernel, by decide +kernel, by decide +kernel, by decide +kernel, ⟨by decide +kernel, by decide +kernel, by decide +kernel, by decide +kernel, ⟨by decide +kernel, by decide +kernel, by decide +kernel, by decide +kernel, ⟨by decide +kernel, by decide +kernel, by decide +kernel, by decide +kernel, ⟨by decide +kernel, by decide +kernel, by decide +kernel, by decide +kernel, ⟨by decide +kernel, by decide +kernel, by decide +kernel, by decide +kernel, ⟨by decide +kernel, by decide +kernel, by decide +kernel, by decide +kernel, ⟨by decide +kernel, by decide +kernel, by decide +kernel, by decide +kernel, ⟨by decide +kernel, by decide +kernel, by decide +kernel, by decide +kernel, ⟨by decide +kernel, by decide +kernel, by decide +kernel, by decide +kernel, ⟨by decide +kernel, by decide +kernel, by decide +kernel, by decide +kernel, ⟨by decide +kernel, by decide +kernel, by decide +kernel, by decide +kernel, ⟨by decide +kernel, by decide +kernel, by decide +kernel, by decide +kernel, ⟨by decide +kernel, by decide +kernel, by decide +kernel, by decide +kernel, ⟨by decide +kernel, by decide +kernel, by decide +kernel, by decide +kernel, ⟨by decide +kernel, by decide +kernel, by decide +kernel, by decide +kernel, ⟨by decide +kernel, by decide +kernel, by decide +kernel, by decide +kernel, ⟨by decide +kernel, by decide +kernel, by decide +kernel, by decide +kernel, ⟨by decide +kernel, by decide +kernel, by decide +kernel, by decide +kernel, ⟨by decide +kernel, by decide +kernel, by decide +kernel, by decide +kernel, rfl⟩⟩⟩⟩⟩⟩⟩⟩⟩⟩⟩⟩⟩⟩⟩⟩⟩⟩⟩⟩⟩⟩⟩⟩⟩⟩
theorem dn_J {L : Nat} {xs : Nat → Int32} {X : cw_M} (hL : L ≤ 3072) (h : dn_r (cw_mi L xs) (124, 25681, dn_g) X) : J_I 0 (cw_scr L) (cw_mi L xs (cw_scr L)) X := by
  obtain ⟨⟨h1, h2⟩, h3, h4⟩ := h
  have h1 : X (-1) 0 = 124 := h1
  have h2 : X (-1) 1 = 25681 := h2
  have e : ∀ c, 33554432 ≤ c → X c = dn_w c := fun c hc => funext (h3 c hc)
  have hla : X x_will_lawAt_ = fun _ => 0 := (e _ (by decide)).trans (dn_z (by decide +kernel))
  have ek := e m_kept_ (by decide)
  have ex := e x_ (by decide)
  have em := e m_ (by decide)
  have er := e x_reader_ (by decide)
  have eq_ := e m_refused_ (by decide)
  have k49 : dn_w m_kept_ 49 = 0 := by decide +kernel
  refine ⟨⟨⟨by omega, fun q hq => ?_⟩, fun c c0 c1 c2 => ?_, ?_⟩, ⟨?_, ?_, ⟨⟨?_, ?_, ?_⟩, ?_, ?_, ?_⟩, ?_⟩, ⟨?_, ?_⟩, ⟨?_, ?_, ?_, ?_, ?_, ?_⟩, ?_, ⟨by omega, by omega⟩, ⟨by omega, by omega⟩, by omega, by omega⟩
  · have g : ∀ q ∈ la_l, 33554432 ≤ q.1 ∧ dn_w q.1 q.2.1 = q.2.2 := by decide +kernel
    rw [e _ (g q hq).1]; exact (g q hq).2
  · rw [h4 c (by omega) c1]
    exact funext (fun j => cw_mi_k (fun q => c2 (by rw [q]; unfold cw_ce cw_scr; omega)))
  · rw [e m_catalan_ (by decide)]; exact dn_all (n := 7) (by decide +kernel)
  · rw [ek]; exact dn_Kr
  · unfold W_r
    rw [ek, e x_will_ (by decide), e x_will_owner_ (by decide), e x_will_kinds_ (by decide), e x_will_marks_ (by decide), e x_will_terms_ (by decide), e x_will_held_ (by decide), e x_will_toldOf_ (by decide), e x_will_toldMuch_ (by decide), e x_will_lawAt_ (by decide)]
    exact dn_Wq X
  · rw [e x_forest_ (by decide), e x_forest_deep_ (by decide), e x_forest_above_ (by decide), show dn_w x_forest_ 5 = -1 by decide +kernel, show dn_w x_forest_ 0 = 0 by decide +kernel]
    exact ⟨by decide, by decide, dn_Fk⟩
  · rw [ex]; decide +kernel
  · rw [ex, show dn_w x_ 18 = 1 by decide +kernel]; intro q; cases q
  · intro i _
    rw [e x_ledger_paper_sums_words_ (by decide), e x_paper_sums_words_ (by decide), dn_z (c := x_ledger_paper_sums_words_) (by decide +kernel), dn_z (c := x_paper_sums_words_) (by decide +kernel)]
    exact ⟨rfl, rfl⟩
  · rw [ex]; decide +kernel
  · rw [ex, show dn_w x_ 19 = 1 by decide +kernel]; intro q; cases q
  · left; rw [e x_settler_ (by decide)]; decide +kernel
  · rw [e m_words_ (by decide)]; exact dn_tab
  · rw [eq_]; exact dn_all (n := 7) (by decide +kernel)
  · unfold j_R; rw [e x_refusals_ (by decide), eq_]; decide +kernel
  · rw [ex, em, er]; decide +kernel
  · rw [er, em, show dn_w x_reader_ 1 = 0 by decide +kernel, show dn_w m_ 13 = 0 by decide +kernel]
    exact ⟨rfl, by decide, fun i a b => by omega⟩
  · left; rw [ex, em]; decide +kernel
  · rw [e x_log_ (by decide), em, show dn_w x_log_ 0 = 0 by decide +kernel, show dn_w m_ 44 = 0 by decide +kernel]
    exact ⟨by decide, fun i a b => by omega⟩
  · rw [ek]
    refine ⟨-100, -100, Or.inl rfl, Or.inl ⟨rfl, ?_, ?_⟩, Or.inl ⟨rfl, ?_, ?_⟩, fun i a b => ?_, ?_⟩
    · rw [e x_images_ (by decide)]; decide +kernel
    · rw [e m_hasImage_ (by decide)]; decide +kernel
    · rw [e x_images_ (by decide)]; decide +kernel
    · rw [e m_hasImage_ (by decide)]; decide +kernel
    · rw [k49] at b; omega
    · rw [hla]; exact fun _ _ _ => Or.inl rfl
  · exact h4 _ (by unfold cw_scr; omega) (by unfold cw_scr; omega)
theorem dn_r0 {L : Nat} {xs : Nat → Int32} (hL : L ≤ 3072) : dn_r (cw_mi L xs) (32, 0, []) (cw_mi L xs) := by
  refine ⟨cw_mi_0 L xs, fun c hc j => ?_, fun _ _ _ => rfl⟩
  show cw_mi L xs c j = 0
  rw [cw_mi_k (by unfold cw_scr; omega)]
  unfold cw_k0
  have g : 32 ≤ cw_ce c := by unfold cw_ce; omega
  have t1 : cw_TREES < 33554432 := by decide
  have t2 : cw_TERM < 33554432 := by decide
  rw [if_neg (by omega), if_neg (by omega), if_neg (by omega), if_neg (by omega), if_neg (by omega)]
/-- THE LAW: from its entry it returns true, in so much room -/
theorem dn_law {L : Nat} {xs : Nat → Int32} (hL : L ≤ 3072) : cw_C 201 k_L_law [vr (cw_scr L)] (cw_mi L xs) (fun r m' => r = some (vi 1) ∧ m' (-1) 0 ≤ 600032 ∧ m' (-1) 1 ≤ 7302250) := by
  have r0 := dn_r0 (xs := xs) hL
  have r1 := dn_new_ok (t := 10) (n := 20) r0 (by decide) rfl
  have hQ : ∀ n X, J_I n (cw_scr L) (cw_mi L xs (cw_scr L)) X → (fun (r : Option cw_V) (m' : cw_M) => r = some (vi 1) ∧ m' (-1) 0 ≤ 600032 ∧ m' (-1) 1 ≤ 7302250) (some (vi 1)) X := fun n X hI => by
    obtain ⟨_, _, _, _, _, a, b, c, d⟩ := hI
    exact ⟨rfl, by omega, by omega⟩
  generalize (fun (r : Option cw_V) (m' : cw_M) => r = some (vi 1) ∧ m' (-1) 0 ≤ 600032 ∧ m' (-1) 1 ≤ 7302250) = Q at hQ ⊢
  refine cw_go_C 2 [] ?_
  refine And.intro ?_ ?_
  · show cw_mi L xs (-1) 0 < 600032 ∧ cw_mi L xs (-1) 1 + 20 ≤ 7302250
    rw [(cw_mi_0 L xs).1, (cw_mi_0 L xs).2]; decide
  show cw_R 201 k_L_law 4 [vr (cw_scr L), none, none, none] [vr (cw_nc (cw_mi L xs) 10 20), vr (cw_nc (cw_mi L xs) 10 20)] (cw_new (cw_mi L xs) 10 20) Q
  rw [dn_nc_eq r0]
  generalize cw_new (cw_mi L xs) 10 20 = m1 at r1 ⊢
  show cw_R 201 k_L_law 4 [vr (cw_scr L), none, none, none] [vr x_, vr x_] m1 Q
  refine cw_go_R 1 [] ?_
  refine And.intro (by decide) ?_
  refine dx_ok (B := cw_mi L xs) 700 dx_Cinit r1 (fun m2 r2 => ?_)
  show cw_R 201 k_L_law 7 [vr (cw_scr L), none, none, none] [vr x_] m2 Q
  have r3 := dn_new_ok (t := 11) (n := 55) r2 (by decide) (by decide +kernel)
  have q1 : m2 (-1) 0 = 97 := r2.1.1
  have q2 : m2 (-1) 1 = 3509 := r2.1.2
  refine cw_go_R 3 [] ?_
  refine And.intro ?_ ?_
  · show m2 (-1) 0 < 600032 ∧ m2 (-1) 1 + 55 ≤ 7302250
    rw [q1, q2]; decide
  show cw_R 201 k_L_law 12 [vr (cw_scr L), vr x_, none, none] [vr (cw_nc m2 11 55), vr (cw_nc m2 11 55)] (cw_new m2 11 55) Q
  rw [dn_nc_eq r2]
  generalize cw_new m2 11 55 = m3 at r3 ⊢
  show cw_R 201 k_L_law 12 [vr (cw_scr L), vr x_, none, none] [vr m_, vr m_] m3 Q
  refine cw_go_R 1 [] ?_
  refine And.intro (by decide) ?_
  refine dx_ok (B := cw_mi L xs) 1000 dx_Minit r3 (fun m4 r4 => ?_)
  show cw_R 201 k_L_law 15 [vr (cw_scr L), vr x_, none, none] [vr m_] m4 Q
  refine cw_go_R 3 [] ?_
  show cw_R 201 k_L_law 18 [vr (cw_scr L), vr x_, vr m_, vi 0] [] m4 Q
  exact L_loop (L := (L : Int)) (by unfold cw_scr; omega) (by unfold cw_scr; omega) (cw_scr_tg L) (by unfold cw_ln cw_scr; omega) (by omega) (by omega) (dn_J hL r4) hQ
