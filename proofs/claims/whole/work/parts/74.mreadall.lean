/-! The reference reads a text: the whole (wip/whole/tools/m74.py). -/
def k_C (b : Int → Int) (n : Int) : Int → Int := fun i => k_cd b n (k_pl b n i.toNat)
def k_V (b : Int → Int) (n : Int) : Int → Int := fun i => k_vl b n (k_pl b n i.toNat)
def k_P (b : Int → Int) (n : Int) : Int → Int := fun i => k_pl b n i.toNat
/-- so many tokens -/
def K_n (b : Int → Int) (n tk : Int) : Prop := (0 ≤ tk ∧ tk ≤ n) ∧ (∀ i : Nat, (i : Int) < tk → k_pl b n i < n) ∧ k_pl b n tk.toNat = n
theorem K_n1 {b : Int → Int} {n tk tk' : Int} (h : K_n b n tk) (h' : K_n b n tk') : tk = tk' := by
  obtain ⟨h1, h2, h3⟩ := h
  obtain ⟨h4, h5, h6⟩ := h'
  by_cases q : tk < tk'
  · have := h5 tk.toNat (by omega); omega
  · by_cases q2 : tk' < tk
    · have := h2 tk'.toNat (by omega); omega
    · omega
theorem K_n0 {b : Int → Int} {n : Int} (hn : 0 ≤ n) : ∃ tk, K_n b n tk := by
  have key : ∀ q : Nat, (∀ i : Nat, i < q → k_pl b n i < n) ∨ ∃ t : Nat, t < q ∧ (∀ i : Nat, i < t → k_pl b n i < n) ∧ ¬ k_pl b n t < n := by
    intro q
    induction q with
    | zero => exact Or.inl (fun i hi => by omega)
    | succ q ih =>
      rcases ih with ih | ⟨t, h1, h2, h3⟩
      · by_cases z : k_pl b n q < n
        · refine Or.inl (fun i hi => ?_)
          by_cases e : i = q
          · rw [e]; exact z
          · exact ih i (by omega)
        · exact Or.inr ⟨q, by omega, ih, z⟩
      · exact Or.inr ⟨t, by omega, h2, h3⟩
  rcases key (n.toNat + 1) with h | ⟨t, h1, h2, h3⟩
  · have h4 := h n.toNat (by omega)
    have := k_pli hn n.toNat h4
    omega
  · have := k_plr (b := b) hn t
    refine ⟨t, ⟨by omega, by omega⟩, fun i hi => h2 i (by omega), ?_⟩
    rw [show ((t : Int)).toNat = t by omega]; omega
theorem k_Cz {b : Int → Int} {n tk : Int} (h : K_n b n tk) : k_C b n tk = 0 := by
  unfold k_C k_cd
  rw [h.2.2, if_neg (by omega)]
theorem k_Pn {b : Int → Int} {n i : Int} (hn : 0 ≤ n) : 0 ≤ k_P b n i ∧ k_P b n i ≤ n := k_plr hn _
theorem k_Vn {b : Int → Int} {n i : Int} : 0 ≤ k_V b n i := k_vlr.1
/-- what reading a text leaves -/
def R_p (m M : cw_M) (cd vl : Int → Int) (tk fa : Int) : Prop := (∀ c, c ≠ m_ → c ≠ m_code_ → c ≠ m_value_ → c ≠ m_placed_ → M c = m c) ∧ (∀ j, j ≠ 8 → j ≠ 9 → j ≠ 10 → j ≠ 13 → j ≠ 14 → j ≠ 18 → j ≠ 19 → j ≠ 20 → j ≠ 21 → M m_ j = m m_ j) ∧ M m_ 13 = 0 ∧ M m_ 14 = fa ∧ M m_ 18 = tk ∧ M m_code_ = cd ∧ M m_value_ = vl
theorem R_pi {m : cw_M} {cd vl pl : Int → Int} {tk fa a b e : Int} : R_p m (y_m (cw_put (cw_put (s_m m cd vl pl tk) m_ 13 0) m_ 14 fa) a b e) cd vl tk fa := by
  refine ⟨fun c h1 h2 h3 h4 => ?_, fun j h8 h9 h10 h13 h14 h18 h19 h20 h21 => ?_, rfl, rfl, rfl, rfl, rfl⟩
  · rw [y_m_ne h1, cw_put_ne h1, cw_put_ne h1, s_m_ne h2 h3 h4 h1]
  · rw [y_m_om_ h19 h20 h21, cw_put_off h14, cw_put_off h13, s_m_om_ h18]
theorem M_reads {d : Nat} {m : cw_M} {Q : Option cw_V → cw_M → Prop} (hm : la_ok m) (htab : k_tab (m m_words_) 0 k_WL) {b : Int → Int} {o : Bool} (hn : 0 ≤ m m_ 13 ∧ m m_ 13 ≤ 400) (hb : ∀ i, 0 ≤ i → i < m m_ 13 → (0 ≤ b i ∧ b i ≤ 255) ∧ m m_tape_ i = cw_i2b (b i)) (h10 : m m_ 10 = if o = true then 1 else 0) (h8 : m m_ 8 = p_fw o) (h9 : m m_ 9 = p_la o)
    (hok : ∀ M cd vl tk Ks, la_ok M → R_p m M cd vl tk (-1) → K_n b (m m_ 13) tk → (∀ i, 0 ≤ i → i ≤ tk → cd i = k_C b (m m_ 13) i ∧ vl i = k_V b (m m_ 13) i) → p_all (k_C b (m m_ 13)) (k_V b (m m_ 13)) o tk = .ok Ks → Q (some (vi 1)) M)
    (her : ∀ M cd vl tk e, la_ok M → R_p m M cd vl tk (k_P b (m m_ 13) e) → K_n b (m m_ 13) tk → p_all (k_C b (m m_ 13)) (k_V b (m m_ 13)) o tk = .error e → Q (some (vi 0)) M) : cw_C (d + 48) k_M_reads [vr m_] m Q := by
  refine la_go_C hm 40 [34] ?_
  show cw_C _ _ [vr m_, vi (m m_ 13)] m _
  refine M_splits hm htab hn hb (fun cd vl pl tk hK => ⟨s_m_ok hm, ?_⟩)
  show cw_C _ _ [vr m_] (cw_put (cw_put (cw_put (cw_put (s_m m cd vl pl tk) m_ 13 0) m_ 19 0) m_ 20 0) m_ 21 (-1)) _
  rw [y_m_puts]
  obtain ⟨k1, k2, k3, k4⟩ := hK
  have hm1 : la_ok (cw_put (s_m m cd vl pl tk) m_ 13 0) := la_put (s_m_ok hm) (by decide) (Or.inl rfl)
  have hKn : K_n b (m m_ 13) tk := ⟨k1, k2, k3⟩
  have hcv : ∀ i, 0 ≤ i → i ≤ tk → cd i = k_C b (m m_ 13) i ∧ vl i = k_V b (m m_ 13) i := fun i a e => by
    have := k4 i.toNat (by omega)
    rw [show ((i.toNat : Nat) : Int) = i by omega] at this
    exact ⟨this.1, this.2.1⟩
  have hY : Y_h (cw_put (s_m m cd vl pl tk) m_ 13 0) (k_C b (m m_ 13)) (k_V b (m m_ 13)) (k_P b (m m_ 13)) o tk := by
    refine ⟨⟨k1.1, by omega⟩, k_Cz hKn, fun i a e => ?_, h10, h8, h9⟩
    have := k4 i.toNat (by omega)
    rw [show ((i.toNat : Nat) : Int) = i by omega] at this
    exact ⟨this.1, this.2.1, this.2.2, (k_Pn hn.1).1, k_Vn⟩
  have ok14 : ∀ w, la_ok (cw_put (cw_put (s_m m cd vl pl tk) m_ 13 0) m_ 14 w) := fun w => la_put hm1 (by decide) (Or.inl rfl)
  refine M_readOne1 hm1 hY (Int.le_refl 0) k1.1 (Int.le_refl 0) (by decide) (fun i1 l1 K e1 => ⟨y_m_ok hm1, ?_⟩) (fun er tk1 lv1 bd e1 e2 e3 => ⟨y_m_ok hm1, ?_⟩)
  · have N := p_NKok (p_oneN hY.2.1 hY.1.2 (Int.le_refl 0) k1.1 (Int.le_refl 0) (by decide)) e1
    show cw_R _ _ 34 [vr m_, vi 1] [] (y_m (cw_put (s_m m cd vl pl tk) m_ 13 0) i1 l1 (-1)) _
    exact M_reads34 hm1 hY rfl 13 1 i1 l1 [K] (by omega) (by omega) (by omega) (by omega) (by omega) (by omega) (by omega)
      (fun Ks a e ez => hok _ cd vl tk Ks (y_m_ok (ok14 _)) R_pi hKn hcv (by unfold p_all; rw [e1]; exact ez))
      (fun er a e bd ez eb nb => by
        subst eb
        exact her _ cd vl tk er (y_m_ok (ok14 _)) R_pi hKn (by unfold p_all; rw [e1]; exact ez))
  · show cw_R _ _ 34 [vr m_, vi 1] [] (y_m (cw_put (s_m m cd vl pl tk) m_ 13 0) tk1 lv1 bd) _
    subst e2
    exact M_reads34b hm1 e3 (her _ cd vl tk er (y_m_ok (ok14 _)) R_pi hKn (by unfold p_all; rw [e1]))
theorem R_p3 {m M : cw_M} {cd vl : Int → Int} {tk fa a b e : Int} (h : R_p (cw_put (cw_put (cw_put m m_ 10 a) m_ 8 b) m_ 9 e) M cd vl tk fa) : R_p m M cd vl tk fa := by
  refine ⟨fun c h1 h2 h3 h4 => ?_, fun j h8 h9 h10 h13 h14 h18 h19 h20 h21 => ?_, h.2.2⟩
  · rw [h.1 c h1 h2 h3 h4, cw_put_ne h1, cw_put_ne h1, cw_put_ne h1]
  · rw [h.2.1 j h8 h9 h10 h13 h14 h18 h19 h20 h21, cw_put_off h9, cw_put_off h8, cw_put_off h10]
theorem M_readsAs1 {d : Nat} {m : cw_M} {Q : Option cw_V → cw_M → Prop} (hm : la_ok m) (htab : k_tab (m m_words_) 0 k_WL) {b : Int → Int} (hn : 0 ≤ m m_ 13 ∧ m m_ 13 ≤ 400) (hb : ∀ i, 0 ≤ i → i < m m_ 13 → (0 ≤ b i ∧ b i ≤ 255) ∧ m m_tape_ i = cw_i2b (b i))
    (hok : ∀ M cd vl tk Ks, la_ok M → R_p m M cd vl tk (-1) → K_n b (m m_ 13) tk → (∀ i, 0 ≤ i → i ≤ tk → cd i = k_C b (m m_ 13) i ∧ vl i = k_V b (m m_ 13) i) → p_all (k_C b (m m_ 13)) (k_V b (m m_ 13)) true tk = .ok Ks → Q (some (vi 1)) M)
    (her : ∀ M cd vl tk e, la_ok M → R_p m M cd vl tk (k_P b (m m_ 13) e) → K_n b (m m_ 13) tk → p_all (k_C b (m m_ 13)) (k_V b (m m_ 13)) true tk = .error e → Q (some (vi 0)) M) : cw_C (d + 49) k_M_readsAs [vr m_, vi 1] m Q := by
  refine la_go_C hm 21 [] ?_
  refine And.intro (Or.inr rfl) ?_
  have hm1 : la_ok (cw_put m m_ 10 1) := la_put hm (by decide) (Or.inl rfl)
  refine br_f (show ¬ ((1 : Int) = 0) by decide) ?_
  have hm2 : la_ok (cw_put (cw_put m m_ 10 1) m_ 8 15) := la_put hm1 (by decide) (Or.inl rfl)
  refine br_f (show ¬ ((1 : Int) = 0) by decide) ?_
  have hm3 : la_ok (cw_put (cw_put (cw_put m m_ 10 1) m_ 8 15) m_ 9 21) := la_put hm2 (by decide) (Or.inl rfl)
  show cw_C _ _ [vr m_] (cw_put (cw_put (cw_put m m_ 10 1) m_ 8 15) m_ 9 21) _
  refine M_reads (o := true) hm3 htab hn hb rfl rfl rfl (fun M cd vl tk Ks hM hR hK hcv he => ⟨hM, ?_⟩) (fun M cd vl tk e hM hR hK he => ⟨hM, ?_⟩)
  · refine And.intro (Or.inr rfl) ?_
    show Q (some (vi 1)) (M)
    exact hok M cd vl tk Ks hM (R_p3 hR) hK hcv he
  · refine And.intro (Or.inl rfl) ?_
    show Q (some (vi 0)) (M)
    exact her M cd vl tk e hM (R_p3 hR) hK he
theorem M_readsAs0 {d : Nat} {m : cw_M} {Q : Option cw_V → cw_M → Prop} (hm : la_ok m) (htab : k_tab (m m_words_) 0 k_WL) {b : Int → Int} (hn : 0 ≤ m m_ 13 ∧ m m_ 13 ≤ 400) (hb : ∀ i, 0 ≤ i → i < m m_ 13 → (0 ≤ b i ∧ b i ≤ 255) ∧ m m_tape_ i = cw_i2b (b i))
    (hok : ∀ M cd vl tk Ks, la_ok M → R_p m M cd vl tk (-1) → K_n b (m m_ 13) tk → (∀ i, 0 ≤ i → i ≤ tk → cd i = k_C b (m m_ 13) i ∧ vl i = k_V b (m m_ 13) i) → p_all (k_C b (m m_ 13)) (k_V b (m m_ 13)) false tk = .ok Ks → Q (some (vi 1)) M)
    (her : ∀ M cd vl tk e, la_ok M → R_p m M cd vl tk (k_P b (m m_ 13) e) → K_n b (m m_ 13) tk → p_all (k_C b (m m_ 13)) (k_V b (m m_ 13)) false tk = .error e → Q (some (vi 0)) M) : cw_C (d + 49) k_M_readsAs [vr m_, vi 0] m Q := by
  refine la_go_C hm 19 [] ?_
  refine And.intro (Or.inl rfl) ?_
  have hm1 : la_ok (cw_put m m_ 10 0) := la_put hm (by decide) (Or.inl rfl)
  refine br_t (show (0 : Int) = 0 by decide) ?_
  have hm2 : la_ok (cw_put (cw_put m m_ 10 0) m_ 8 8) := la_put hm1 (by decide) (Or.inl rfl)
  refine br_t (show (0 : Int) = 0 by decide) ?_
  have hm3 : la_ok (cw_put (cw_put (cw_put m m_ 10 0) m_ 8 8) m_ 9 15) := la_put hm2 (by decide) (Or.inl rfl)
  show cw_C _ _ [vr m_] (cw_put (cw_put (cw_put m m_ 10 0) m_ 8 8) m_ 9 15) _
  refine M_reads (o := false) hm3 htab hn hb rfl rfl rfl (fun M cd vl tk Ks hM hR hK hcv he => ⟨hM, ?_⟩) (fun M cd vl tk e hM hR hK he => ⟨hM, ?_⟩)
  · refine And.intro (Or.inr rfl) ?_
    show Q (some (vi 1)) (M)
    exact hok M cd vl tk Ks hM (R_p3 hR) hK hcv he
  · refine And.intro (Or.inl rfl) ?_
    show Q (some (vi 0)) (M)
    exact her M cd vl tk e hM (R_p3 hR) hK he
