/-! The class reads a text (wip/whole/tools/m80.py). -/
def e_cls (o : Bool) (co : Int → Int) (sz : Int) (hd fi se te re : Int → Int) (Ks : List p_K) : Prop := ∀ (j : Nat) (K : p_K), Ks[j]? = some K → hd j = K.1 ∧ re j = K.2.2.2.1 ∧ e_pt co sz (fi j) (p_A o K.1 K.2.1) ∧ e_pt co sz (se j) (p_B o K.1 K.2.2.1) ∧ e_pt co sz (te j) K.2.2.2.2
theorem e_cls0 {o : Bool} {co : Int → Int} {sz : Int} {hd fi se te re : Int → Int} : e_cls o co sz hd fi se te re [] := fun j K h => by rw [List.getElem?_nil] at h; cases h
theorem e_clsA {o : Bool} {co co1 co2 : Int → Int} {sz z1 z2 c i i1 i2 h k : Int} {A B : p_D} {T : Option p_D} {hd fi se te re hd1 fi1 se1 te1 re1 te2 : Int → Int} {Ks : List p_K} (H : e_cls o co sz hd fi se te re Ks) (hl : (Ks.length : Int) = c) (g1 : e_g co sz co1 z1 i i1) (C : e_c1 o c hd fi se te re hd1 fi1 se1 te1 re1 co1 z1 h A B k) (g2 : e_g co1 z1 co2 z2 i1 i2) (R : e_rw c te1 te2) (Pt : e_pt co2 z2 (te2 c) T) : e_cls o co2 z2 hd1 fi1 se1 te2 re1 (Ks ++ [(h, A, B, k, T)]) := by
  obtain ⟨⟨r1, r2, r3, r4, r5⟩, c1, c2, c3, c4, c5⟩ := C
  have a1 := g1.1
  have a2 := g2.1
  intro j K hj
  by_cases q : j < Ks.length
  · rw [List.getElem?_append_left q] at hj
    obtain ⟨p1, p2, p3, p4, p5⟩ := H j K hj
    have hjc : (j : Int) ≠ c := by omega
    have hag : ∀ x, x < sz → co2 x = co x := fun x hx => by rw [g2.2.2.1 x (by omega), g1.2.2.1 x hx]
    rw [r1 j hjc, r5 j hjc, r2 j hjc, r3 j hjc, R j hjc, r4 j hjc]
    exact ⟨p1, p2, e_pts p3 (by omega) hag, e_pts p4 (by omega) hag, e_pts p5 (by omega) hag⟩
  · rw [List.getElem?_append_right (by omega)] at hj
    by_cases q2 : j = Ks.length
    · rw [q2, Nat.sub_self] at hj
      have e : K = (h, A, B, k, T) := (Option.some.inj hj).symm
      subst e
      have hjc : (j : Int) = c := by omega
      rw [hjc]
      exact ⟨c1, c2, e_pts c4 a2 g2.2.2.1, e_pts c5 a2 g2.2.2.1, Pt⟩
    · rw [List.getElem?_eq_none (by simp; omega)] at hj; cases hj
theorem x_Pt {m : cw_M} {tk i : Int} (hX : X_h m tk) (h0 : 0 ≤ i) (h1 : i ≤ tk) : x_P m i < m x_reader_ 1 ↔ i < tk := by
  obtain ⟨k1, k2, k3⟩ := hX.2.2.2
  constructor
  · intro h
    by_cases e : i = tk
    · subst e; have h : k_pl (m x_reader_bytes_) (m x_reader_ 1) i.toNat < m x_reader_ 1 := h; omega
    · omega
  · intro h
    exact k2 i.toNat (by omega)
def p_nx (c v : Int → Int) (o : Bool) (n : Int) (f : Nat) (k i l : Int) (acc : List p_K) : Except Int (List p_K) := match p_one c v o i l with
  | .error e => .error e
  | .ok (i1, l1, K) => p_rest c v o n f (k + 1) i1 l1 (acc ++ [K])
/-- what reading leaves -/
def X_p (m M : cw_M) (fa : Int) : Prop := (∀ c, c ≠ x_reader_ → c ≠ x_reader_text_ → c ≠ x_reader_text_code_ → c ≠ x_reader_text_head_ → c ≠ x_reader_text_first_ → c ≠ x_reader_text_second_ → c ≠ x_reader_text_test_ → c ≠ x_reader_text_repeats_ → M c = m c) ∧ M x_reader_ 1 = 0 ∧ M x_reader_ 2 = fa
def X_t (o : Bool) (M : cw_M) (Ks : List p_K) : Prop := e_cls o (M x_reader_text_code_) (M x_reader_text_ 1) (M x_reader_text_head_) (M x_reader_text_first_) (M x_reader_text_second_) (M x_reader_text_test_) (M x_reader_text_repeats_) Ks ∧ e_ok (M x_reader_text_code_) (M x_reader_text_ 1) ∧ (0 ≤ M x_reader_text_ 1 ∧ M x_reader_text_ 1 ≤ 400) ∧ M x_reader_text_ 0 = Ks.length ∧ Ks.length ≤ 12
theorem X_pi {m : cw_M} {co hd fi se te re : Int → Int} {fa st sp pa op cl sz : Int} : X_p m (cw_put (q_m m co hd fi se te re fa st sp pa op cl sz) x_reader_ 1 0) fa :=
  ⟨fun c h1 h2 h3 h4 h5 h6 h7 h8 => by rw [cw_put_ne h1, q_m_ne h3 h4 h5 h6 h7 h8 h1 h2], rfl, rfl⟩
theorem X_ti {m : cw_M} {co hd fi se te re : Int → Int} {fa st sp pa op cl sz : Int} {o : Bool} {Ks : List p_K} (h1 : e_cls o co sz hd fi se te re Ks) (h2 : e_ok co sz) (h3 : 0 ≤ sz ∧ sz ≤ 400) (h4 : cl = Ks.length) (h5 : Ks.length ≤ 12) : X_t o (cw_put (q_m m co hd fi se te re fa st sp pa op cl sz) x_reader_ 1 0) Ks := ⟨h1, h2, h3, h4, h5⟩
theorem x_p1 {m : cw_M} {co hd fi se te re : Int → Int} {fa st sp pa op cl sz : Int} (hm0 : la_ok m) : la_ok (cw_put (q_m m co hd fi se te re fa st sp pa op cl sz) x_reader_ 1 0) := la_put (q_m_ok hm0) (by decide) (Or.inl rfl)
theorem Re_parse52x {d : Nat} {m : cw_M} {Q : Option cw_V → cw_M → Prop} (hm0 : la_ok m) {co hd fi se te re : Int → Int} {fa st sp pa op cl sz : Int} {lw en c : Int} (he : en = 0 ∨ en = 1) (h : Q (some (vi en)) (cw_put (q_m m co hd fi se te re fa st sp pa op cl sz) x_reader_ 1 0)) : cw_R d k_Re_parse 52 [vr x_reader_, vi lw, vi en, vi 0, vi c] [] (q_m m co hd fi se te re fa st sp pa op cl sz) Q := by
  have hm : la_ok (q_m m co hd fi se te re fa st sp pa op cl sz) := q_m_ok hm0
  refine la_go_R hm 15 [] ?_
  refine And.intro (fun (c1 : 12 ≤ c) => ?_) (fun (c1 : ¬ (12 ≤ c)) => ?_)
  · refine br_t (show (0 : Int) = 0 by decide) ?_
    have hm2 : la_ok (cw_put (q_m m co hd fi se te re fa st sp pa op cl sz) x_reader_ 1 0) := la_put hm (by decide) (Or.inl rfl)
    refine And.intro (show en = 0 ∨ en = 1 by omega) ?_
    show Q (some (vi en)) (cw_put (q_m m co hd fi se te re fa st sp pa op cl sz) x_reader_ 1 0)
    exact h
  · refine br_t (show (0 : Int) = 0 by decide) ?_
    refine br_t (show (0 : Int) = 0 by decide) ?_
    have hm3 : la_ok (cw_put (q_m m co hd fi se te re fa st sp pa op cl sz) x_reader_ 1 0) := la_put hm (by decide) (Or.inl rfl)
    refine And.intro (show en = 0 ∨ en = 1 by omega) ?_
    show Q (some (vi en)) (cw_put (q_m m co hd fi se te re fa st sp pa op cl sz) x_reader_ 1 0)
    exact h
theorem Re_parse52y {d : Nat} {m : cw_M} {Q : Option cw_V → cw_M → Prop} (hm0 : la_ok m) {co hd fi se te re : Int → Int} {fa st sp pa op cl sz : Int} {lw : Int} (h : Q (some (vi 0)) (cw_put (q_m m co hd fi se te re st st sp pa op cl sz) x_reader_ 1 0)) : cw_R (d + 1) k_Re_parse 52 [vr x_reader_, vi lw, vi 0, vi 1, vi 12] [] (q_m m co hd fi se te re fa st sp pa op cl sz) Q := by
  have hm : la_ok (q_m m co hd fi se te re fa st sp pa op cl sz) := q_m_ok hm0
  refine la_go_R hm 16 [] ?_
  refine br_t (show (12 : Int) ≤ 12 by decide) ?_
  refine br_f (show ¬ ((1 : Int) = 0) by decide) ?_
  show cw_C _ _ [vr x_reader_] (q_m m co hd fi se te re fa st sp pa op cl sz) _
  refine Re_fail hm0 ⟨(q_m_ok hm0), ?_⟩
  have hm1 : la_ok (cw_put (q_m m co hd fi se te re st st sp pa op cl sz) x_reader_ 1 0) := la_put (q_m_ok hm0) (by decide) (Or.inl rfl)
  refine And.intro (Or.inl rfl) ?_
  show Q (some (vi 0)) (cw_put (q_m m co hd fi se te re st st sp pa op cl sz) x_reader_ 1 0)
  exact h
set_option maxHeartbeats 4000000 in
theorem Re_parse52T {d : Nat} {m : cw_M} {Q : Option cw_V → cw_M → Prop} (hm0 : la_ok m) {tk : Int} (hX : X_h m tk) (hlaw : m x_reader_ 4 = if true = true then 0 else 1) {fa : Int} (hfa : fa = -1) : ∀ (f0 : Nat) (c i l : Int) (acc : List p_K) (co : Int → Int) (sz : Int) (hd fi se te re : Int → Int) (cl : Int), c + f0 = 13 → 0 ≤ c → c ≤ 11 → (acc.length : Int) = c → 0 ≤ i → i ≤ tk → 0 ≤ l → l ≤ 50 → 0 ≤ sz → sz ≤ i → e_ok co sz → e_cls true co sz hd fi se te re acc → (∀ Ks M, la_ok M → X_p m M fa → p_nx (x_c m) (x_v m) true tk f0 c i l acc = .ok Ks → X_t true M Ks → Q (some (vi 1)) M) → (∀ er M, la_ok M → X_p m M (x_P m er) → p_nx (x_c m) (x_v m) true tk f0 c i l acc = .error er → Q (some (vi 0)) M) → cw_R (d + 41) k_Re_parse 52 [vr x_reader_, vi 0, vi 0, vi 1, vi c] [] (q_m m co hd fi se te re fa (x_P m i) (x_E m i) l 0 cl sz) Q
  | 0, c, i, l, acc, co, sz, hd, fi, se, te, re, cl, a1, a2, a3, _, _, _, _, _, _, _, _, _, _, _ => by omega
  | f0 + 1, c, i, l, acc, co, sz, hd, fi, se, te, re, cl, hcf, hc0, hc1, hal, h0, h1, hl0, hl1, hz0, hzi, he0, hcls, hok, her => by
    have ih := Re_parse52T (d := d) (Q := Q) hm0 hX hlaw hfa f0
    have hlw : m x_reader_ 4 = 0 := hlaw
    have hc : 0 ≤ c ∧ c < 12 := by omega
    have hm : la_ok (q_m m co hd fi se te re fa (x_P m i) (x_E m i) l 0 cl sz) := q_m_ok hm0
    have hz : x_c m tk = 0 := k_Cz hX.2.2.2
    have tkn : 0 ≤ tk ∧ tk ≤ 400 := ⟨hX.2.2.2.1.1, by have := hX.2.2.2.1.2; have := hX.2.1; omega⟩
    have ltn : ∀ z, 0 ≤ z → z ≤ tk → x_c m z ≠ 0 → z < tk := fun z _ _ q => by
      by_cases e : z = tk
      · rw [e] at q; exact absurd hz q
      · omega
    refine la_go_R hm 52 [52] ?_
    refine br_f (show ¬ (12 ≤ c) by omega) ?_
    refine br_f (show ¬ ((1 : Int) = 0) by decide) ?_
    refine br_t (show m x_reader_ 4 = 0 by omega) ?_
    show cw_C _ _ [vr x_reader_, vi c] (q_m m co hd fi se te re fa (x_P m i) (x_E m i) l 0 cl sz) _
    refine Re_orderClause hm0 hX hlaw hc (by omega) (by omega) (by omega) (by omega) (by omega) (by omega) he0 (fun (i1 l1 h1 : Int) (A1 B1 : p_D) (k1 : Int) (co1 hd1 fi1 se1 te1 re1 : Int → Int) (z1 : Int) (e1 : p_one (x_c m) (x_v m) true i l = p_ift (x_c m) (x_v m) true h1 A1 B1 k1 i1 l1) (b11 : i < i1) (b12 : i1 ≤ tk) (b13 : l ≤ l1) (b14 : l1 ≤ 50) (G1 : e_g co sz co1 z1 i i1) (C1 : e_c1 true c hd fi se te re hd1 fi1 se1 te1 re1 co1 z1 h1 A1 B1 k1) => ⟨(q_m_ok hm0), ?_⟩) (fun (r1 : Int) (co1 hd1 fi1 se1 te1 re1 : Int → Int) (s1 q1 a1 p1 z1 : Int) (e1 : p_one (x_c m) (x_v m) true i l = .error r1) => ⟨(q_m_ok hm0), ?_⟩)
    · have G11 := G1.1
      have G12 := G1.2.1
      refine br_f (show ¬ ((1 : Int) = 0) by decide) ?_
      show cw_C _ _ [vr x_reader_, vi c] (q_m m co1 hd1 fi1 se1 te1 re1 fa (x_P m i1) (x_E m i1) l1 0 cl z1) _
      refine Re_condition (o := true) hm0 hX hlaw hc (by omega) (by omega) (by omega) (by omega) (by omega) (by omega) G1.2.2.2 C1.2.2.2.1 (fun (i2 l2 : Int) (T2 : Option p_D) (co2 te2 : Int → Int) (z2 : Int) (e2 : p_ift (x_c m) (x_v m) true h1 A1 B1 k1 i1 l1 = .ok (i2, l2, h1, A1, B1, k1, T2)) (b21 : i1 ≤ i2) (b22 : i2 ≤ tk) (b23 : l1 ≤ l2) (b24 : l2 ≤ 50) (G2 : e_g co1 z1 co2 z2 i1 i2) (R2 : e_rw c te1 te2) (P2 : e_pt co2 z2 (te2 c) T2) => ⟨(q_m_ok hm0), ?_⟩) (fun (r2 : Int) (co2 te2 : Int → Int) (s2 q2 a2 p2 z2 : Int) (e2 : p_ift (x_c m) (x_v m) true h1 A1 B1 k1 i1 l1 = .error r2) => ⟨(q_m_ok hm0), ?_⟩)
      · have G21 := G2.1
        have G22 := G2.2.1
        have pe2 : x_P m i2 < m x_reader_ 1 ↔ i2 < tk := x_Pt hX (by omega) (by omega)
        have L2 : x_c m i2 ≠ 0 → i2 < tk := ltn _ (by omega) (by omega)
        refine br_f (show ¬ ((1 : Int) = 0) by decide) ?_
        refine br_f (show ¬ ((1 : Int) = 0) by decide) ?_
        refine And.intro (show -2147483648 ≤ c + 1 ∧ c + 1 < 2147483648 by omega) ?_
        have hm3 : la_ok (cw_put (q_m m co2 hd1 fi1 se1 te2 re1 fa (x_P m i2) (x_E m i2) l2 0 cl z2) x_reader_text_ 0 (c + 1)) := la_put (q_m_ok hm0) (by decide) (Or.inl rfl)
        refine And.intro (fun (c4 : x_P m i2 < m x_reader_ 1) => ?_) (fun (c4 : ¬ (x_P m i2 < m x_reader_ 1)) => ?_)
        · refine br_f (show ¬ ((0 : Int) ≠ 0) by decide) ?_
          show cw_C _ _ [vr x_reader_, vi 59] (cw_put (q_m m co2 hd1 fi1 se1 te2 re1 fa (x_P m i2) (x_E m i2) l2 0 cl z2) x_reader_text_ 0 (c + 1)) _
          rw [q_m_fcl]
          have hm5 : la_ok (q_m m co2 hd1 fi1 se1 te2 re1 fa (x_P m i2) (x_E m i2) l2 0 (c + 1) z2) := q_m_ok hm0
          refine Rt_isSign hm0 hX (by decide) (by decide) (by decide) rfl (fun (a6 : x_c m i2 = 159) => ⟨hm5, ?_⟩) (fun (a6 : x_c m i2 ≠ 159) => ⟨hm5, ?_⟩)
          · refine br_t (show (1 : Int) ≠ 0 by decide) ?_
            show cw_C _ _ [vr x_reader_] (q_m m co2 hd1 fi1 se1 te2 re1 fa (x_P m i2) (x_E m i2) l2 0 (c + 1) z2) _
            refine Rt_advance hm0 hX (by omega) ⟨(q_m_ok hm0), ?_⟩
            refine And.intro (show -2147483648 ≤ c + 1 ∧ c + 1 < 2147483648 by omega) ?_
            show cw_R _ _ 52 [vr x_reader_, vi 0, vi 0, vi 1, vi (c + 1)] [] (q_m m co2 hd1 fi1 se1 te2 re1 fa (x_P m (i2 + 1)) (x_E m (i2 + 1)) l2 0 (c + 1) z2) _
            have CA := e_clsA hcls hal G1 C1 G2 R2 P2
            by_cases h12 : c + 1 = 12
            · rw [h12]
              exact Re_parse52y hm0 (her (i2 + 1) _ (x_p1 hm0) X_pi (by unfold p_nx; rw [e1, e2]; show p_rest _ _ _ _ _ _ _ _ _ = _; unfold p_rest; rw [if_pos (by omega), if_pos (by omega)]))
            · refine ih (c + 1) (i2 + 1) l2 (acc ++ [(h1, A1, B1, k1, T2)]) _ z2 _ _ _ _ _ _ (by omega) (by omega) (by omega) (by rw [List.length_append]; show ((acc.length + 1 : Nat) : Int) = c + 1; omega) (by omega) (by omega) (by omega) (by omega) (by omega) (by omega) G2.2.2.2 CA (fun Ks M hM hp ez ht => hok Ks M hM hp ?_ ht) (fun er M hM hp ez => her er M hM hp ?_)
              · unfold p_nx; rw [e1, e2]; show p_rest _ _ _ _ _ _ _ _ _ = _; unfold p_rest; rw [if_pos (by omega), if_neg (by omega)]; exact ez
              · unfold p_nx; rw [e1, e2]; show p_rest _ _ _ _ _ _ _ _ _ = _; unfold p_rest; rw [if_pos (by omega), if_neg (by omega)]; exact ez
          · refine br_f (show ¬ ((0 : Int) ≠ 0) by decide) ?_
            show cw_C _ _ [vr x_reader_] (q_m m co2 hd1 fi1 se1 te2 re1 fa (x_P m i2) (x_E m i2) l2 0 (c + 1) z2) _
            refine Re_fail hm0 ⟨(q_m_ok hm0), ?_⟩
            refine br_t (show (0 : Int) = 0 by decide) ?_
            show cw_C _ _ [vr x_reader_] (q_m m co2 hd1 fi1 se1 te2 re1 (x_P m i2) (x_P m i2) (x_E m i2) l2 0 (c + 1) z2) _
            refine Rt_advance hm0 hX (by omega) ⟨(q_m_ok hm0), ?_⟩
            refine And.intro (show -2147483648 ≤ c + 1 ∧ c + 1 < 2147483648 by omega) ?_
            show cw_R _ _ 52 [vr x_reader_, vi 0, vi 0, vi 0, vi (c + 1)] [] (q_m m co2 hd1 fi1 se1 te2 re1 (x_P m i2) (x_P m (i2 + 1)) (x_E m (i2 + 1)) l2 0 (c + 1) z2) _
            exact Re_parse52x hm0 (Or.inl rfl) (her i2 _ (x_p1 hm0) X_pi (by unfold p_nx; rw [e1, e2]; show p_rest _ _ _ _ _ _ _ _ _ = _; unfold p_rest; rw [if_neg (by omega), if_pos (by omega)]))
        · refine br_t (show (1 : Int) ≠ 0 by decide) ?_
          show cw_C _ _ [vr x_reader_] (cw_put (q_m m co2 hd1 fi1 se1 te2 re1 fa (x_P m i2) (x_E m i2) l2 0 cl z2) x_reader_text_ 0 (c + 1)) _
          rw [q_m_fcl]
          have hm7 : la_ok (q_m m co2 hd1 fi1 se1 te2 re1 fa (x_P m i2) (x_E m i2) l2 0 (c + 1) z2) := q_m_ok hm0
          refine Rt_advance hm0 hX (by omega) ⟨(q_m_ok hm0), ?_⟩
          refine And.intro (show -2147483648 ≤ c + 1 ∧ c + 1 < 2147483648 by omega) ?_
          show cw_R _ _ 52 [vr x_reader_, vi 0, vi 1, vi 0, vi (c + 1)] [] (q_m m co2 hd1 fi1 se1 te2 re1 fa (x_P m (i2 + 1)) (x_E m (i2 + 1)) l2 0 (c + 1) z2) _
          have CA := e_clsA hcls hal G1 C1 G2 R2 P2
          exact Re_parse52x hm0 (Or.inr rfl) (hok (acc ++ [(h1, A1, B1, k1, T2)]) _ (x_p1 hm0) X_pi (by unfold p_nx; rw [e1, e2]; show p_rest _ _ _ _ _ _ _ _ _ = _; unfold p_rest; rw [if_neg (by omega), if_neg (by omega)]) (X_ti CA G2.2.2.2 (by omega) (by rw [List.length_append]; show c + 1 = ((acc.length + 1 : Nat) : Int); omega) (by rw [List.length_append]; show acc.length + 1 ≤ 12; omega)))
      · refine br_t (show (0 : Int) = 0 by decide) ?_
        refine br_t (show (0 : Int) = 0 by decide) ?_
        refine And.intro (show -2147483648 ≤ c + 1 ∧ c + 1 < 2147483648 by omega) ?_
        show cw_R _ _ 52 [vr x_reader_, vi 0, vi 0, vi 0, vi (c + 1)] [] (q_m m co2 hd1 fi1 se1 te2 re1 (x_P m r2) s2 q2 a2 p2 cl z2) _
        exact Re_parse52x hm0 (Or.inl rfl) (her r2 _ (x_p1 hm0) X_pi (by unfold p_nx; rw [e1, e2]))
    · refine br_t (show (0 : Int) = 0 by decide) ?_
      refine br_t (show (0 : Int) = 0 by decide) ?_
      refine And.intro (show -2147483648 ≤ c + 1 ∧ c + 1 < 2147483648 by omega) ?_
      show cw_R _ _ 52 [vr x_reader_, vi 0, vi 0, vi 0, vi (c + 1)] [] (q_m m co1 hd1 fi1 se1 te1 re1 (x_P m r1) s1 q1 a1 p1 cl z1) _
      exact Re_parse52x hm0 (Or.inl rfl) (her r1 _ (x_p1 hm0) X_pi (by unfold p_nx; rw [e1]))
set_option maxHeartbeats 4000000 in
theorem Re_parse52F {d : Nat} {m : cw_M} {Q : Option cw_V → cw_M → Prop} (hm0 : la_ok m) {tk : Int} (hX : X_h m tk) (hlaw : m x_reader_ 4 = if false = true then 0 else 1) {fa : Int} (hfa : fa = -1) : ∀ (f0 : Nat) (c i l : Int) (acc : List p_K) (co : Int → Int) (sz : Int) (hd fi se te re : Int → Int) (cl : Int), c + f0 = 13 → 0 ≤ c → c ≤ 11 → (acc.length : Int) = c → 0 ≤ i → i ≤ tk → 0 ≤ l → l ≤ 50 → 0 ≤ sz → sz ≤ i → e_ok co sz → e_cls false co sz hd fi se te re acc → (∀ Ks M, la_ok M → X_p m M fa → p_nx (x_c m) (x_v m) false tk f0 c i l acc = .ok Ks → X_t false M Ks → Q (some (vi 1)) M) → (∀ er M, la_ok M → X_p m M (x_P m er) → p_nx (x_c m) (x_v m) false tk f0 c i l acc = .error er → Q (some (vi 0)) M) → cw_R (d + 41) k_Re_parse 52 [vr x_reader_, vi 1, vi 0, vi 1, vi c] [] (q_m m co hd fi se te re fa (x_P m i) (x_E m i) l 0 cl sz) Q
  | 0, c, i, l, acc, co, sz, hd, fi, se, te, re, cl, a1, a2, a3, _, _, _, _, _, _, _, _, _, _, _ => by omega
  | f0 + 1, c, i, l, acc, co, sz, hd, fi, se, te, re, cl, hcf, hc0, hc1, hal, h0, h1, hl0, hl1, hz0, hzi, he0, hcls, hok, her => by
    have ih := Re_parse52F (d := d) (Q := Q) hm0 hX hlaw hfa f0
    have hlw : m x_reader_ 4 = 1 := hlaw
    have hc : 0 ≤ c ∧ c < 12 := by omega
    have hm : la_ok (q_m m co hd fi se te re fa (x_P m i) (x_E m i) l 0 cl sz) := q_m_ok hm0
    have hz : x_c m tk = 0 := k_Cz hX.2.2.2
    have tkn : 0 ≤ tk ∧ tk ≤ 400 := ⟨hX.2.2.2.1.1, by have := hX.2.2.2.1.2; have := hX.2.1; omega⟩
    have ltn : ∀ z, 0 ≤ z → z ≤ tk → x_c m z ≠ 0 → z < tk := fun z _ _ q => by
      by_cases e : z = tk
      · rw [e] at q; exact absurd hz q
      · omega
    refine la_go_R hm 53 [52] ?_
    refine br_f (show ¬ (12 ≤ c) by omega) ?_
    refine br_f (show ¬ ((1 : Int) = 0) by decide) ?_
    refine br_f (show ¬ (m x_reader_ 4 = 0) by omega) ?_
    show cw_C _ _ [vr x_reader_, vi c] (q_m m co hd fi se te re fa (x_P m i) (x_E m i) l 0 cl sz) _
    refine Re_lawClause hm0 hX hlaw hc (by omega) (by omega) (by omega) (by omega) (by omega) (by omega) he0 (fun (i1 l1 h1 : Int) (A1 B1 : p_D) (k1 : Int) (co1 hd1 fi1 se1 te1 re1 : Int → Int) (z1 : Int) (e1 : p_one (x_c m) (x_v m) false i l = p_ift (x_c m) (x_v m) false h1 A1 B1 k1 i1 l1) (b11 : i < i1) (b12 : i1 ≤ tk) (b13 : l ≤ l1) (b14 : l1 ≤ 50) (G1 : e_g co sz co1 z1 i i1) (C1 : e_c1 false c hd fi se te re hd1 fi1 se1 te1 re1 co1 z1 h1 A1 B1 k1) => ⟨(q_m_ok hm0), ?_⟩) (fun (r1 : Int) (co1 hd1 fi1 se1 te1 re1 : Int → Int) (s1 q1 a1 p1 z1 : Int) (e1 : p_one (x_c m) (x_v m) false i l = .error r1) => ⟨(q_m_ok hm0), ?_⟩)
    · have G11 := G1.1
      have G12 := G1.2.1
      refine br_f (show ¬ ((1 : Int) = 0) by decide) ?_
      show cw_C _ _ [vr x_reader_, vi c] (q_m m co1 hd1 fi1 se1 te1 re1 fa (x_P m i1) (x_E m i1) l1 0 cl z1) _
      refine Re_condition (o := false) hm0 hX hlaw hc (by omega) (by omega) (by omega) (by omega) (by omega) (by omega) G1.2.2.2 C1.2.2.2.1 (fun (i2 l2 : Int) (T2 : Option p_D) (co2 te2 : Int → Int) (z2 : Int) (e2 : p_ift (x_c m) (x_v m) false h1 A1 B1 k1 i1 l1 = .ok (i2, l2, h1, A1, B1, k1, T2)) (b21 : i1 ≤ i2) (b22 : i2 ≤ tk) (b23 : l1 ≤ l2) (b24 : l2 ≤ 50) (G2 : e_g co1 z1 co2 z2 i1 i2) (R2 : e_rw c te1 te2) (P2 : e_pt co2 z2 (te2 c) T2) => ⟨(q_m_ok hm0), ?_⟩) (fun (r2 : Int) (co2 te2 : Int → Int) (s2 q2 a2 p2 z2 : Int) (e2 : p_ift (x_c m) (x_v m) false h1 A1 B1 k1 i1 l1 = .error r2) => ⟨(q_m_ok hm0), ?_⟩)
      · have G21 := G2.1
        have G22 := G2.2.1
        have pe2 : x_P m i2 < m x_reader_ 1 ↔ i2 < tk := x_Pt hX (by omega) (by omega)
        have L2 : x_c m i2 ≠ 0 → i2 < tk := ltn _ (by omega) (by omega)
        refine br_f (show ¬ ((1 : Int) = 0) by decide) ?_
        refine br_f (show ¬ ((1 : Int) = 0) by decide) ?_
        refine And.intro (show -2147483648 ≤ c + 1 ∧ c + 1 < 2147483648 by omega) ?_
        have hm3 : la_ok (cw_put (q_m m co2 hd1 fi1 se1 te2 re1 fa (x_P m i2) (x_E m i2) l2 0 cl z2) x_reader_text_ 0 (c + 1)) := la_put (q_m_ok hm0) (by decide) (Or.inl rfl)
        refine And.intro (fun (c4 : x_P m i2 < m x_reader_ 1) => ?_) (fun (c4 : ¬ (x_P m i2 < m x_reader_ 1)) => ?_)
        · refine br_f (show ¬ ((0 : Int) ≠ 0) by decide) ?_
          show cw_C _ _ [vr x_reader_, vi 59] (cw_put (q_m m co2 hd1 fi1 se1 te2 re1 fa (x_P m i2) (x_E m i2) l2 0 cl z2) x_reader_text_ 0 (c + 1)) _
          rw [q_m_fcl]
          have hm5 : la_ok (q_m m co2 hd1 fi1 se1 te2 re1 fa (x_P m i2) (x_E m i2) l2 0 (c + 1) z2) := q_m_ok hm0
          refine Rt_isSign hm0 hX (by decide) (by decide) (by decide) rfl (fun (a6 : x_c m i2 = 159) => ⟨hm5, ?_⟩) (fun (a6 : x_c m i2 ≠ 159) => ⟨hm5, ?_⟩)
          · refine br_t (show (1 : Int) ≠ 0 by decide) ?_
            show cw_C _ _ [vr x_reader_] (q_m m co2 hd1 fi1 se1 te2 re1 fa (x_P m i2) (x_E m i2) l2 0 (c + 1) z2) _
            refine Rt_advance hm0 hX (by omega) ⟨(q_m_ok hm0), ?_⟩
            refine And.intro (show -2147483648 ≤ c + 1 ∧ c + 1 < 2147483648 by omega) ?_
            show cw_R _ _ 52 [vr x_reader_, vi 1, vi 0, vi 1, vi (c + 1)] [] (q_m m co2 hd1 fi1 se1 te2 re1 fa (x_P m (i2 + 1)) (x_E m (i2 + 1)) l2 0 (c + 1) z2) _
            have CA := e_clsA hcls hal G1 C1 G2 R2 P2
            by_cases h12 : c + 1 = 12
            · rw [h12]
              exact Re_parse52y hm0 (her (i2 + 1) _ (x_p1 hm0) X_pi (by unfold p_nx; rw [e1, e2]; show p_rest _ _ _ _ _ _ _ _ _ = _; unfold p_rest; rw [if_pos (by omega), if_pos (by omega)]))
            · refine ih (c + 1) (i2 + 1) l2 (acc ++ [(h1, A1, B1, k1, T2)]) _ z2 _ _ _ _ _ _ (by omega) (by omega) (by omega) (by rw [List.length_append]; show ((acc.length + 1 : Nat) : Int) = c + 1; omega) (by omega) (by omega) (by omega) (by omega) (by omega) (by omega) G2.2.2.2 CA (fun Ks M hM hp ez ht => hok Ks M hM hp ?_ ht) (fun er M hM hp ez => her er M hM hp ?_)
              · unfold p_nx; rw [e1, e2]; show p_rest _ _ _ _ _ _ _ _ _ = _; unfold p_rest; rw [if_pos (by omega), if_neg (by omega)]; exact ez
              · unfold p_nx; rw [e1, e2]; show p_rest _ _ _ _ _ _ _ _ _ = _; unfold p_rest; rw [if_pos (by omega), if_neg (by omega)]; exact ez
          · refine br_f (show ¬ ((0 : Int) ≠ 0) by decide) ?_
            show cw_C _ _ [vr x_reader_] (q_m m co2 hd1 fi1 se1 te2 re1 fa (x_P m i2) (x_E m i2) l2 0 (c + 1) z2) _
            refine Re_fail hm0 ⟨(q_m_ok hm0), ?_⟩
            refine br_t (show (0 : Int) = 0 by decide) ?_
            show cw_C _ _ [vr x_reader_] (q_m m co2 hd1 fi1 se1 te2 re1 (x_P m i2) (x_P m i2) (x_E m i2) l2 0 (c + 1) z2) _
            refine Rt_advance hm0 hX (by omega) ⟨(q_m_ok hm0), ?_⟩
            refine And.intro (show -2147483648 ≤ c + 1 ∧ c + 1 < 2147483648 by omega) ?_
            show cw_R _ _ 52 [vr x_reader_, vi 1, vi 0, vi 0, vi (c + 1)] [] (q_m m co2 hd1 fi1 se1 te2 re1 (x_P m i2) (x_P m (i2 + 1)) (x_E m (i2 + 1)) l2 0 (c + 1) z2) _
            exact Re_parse52x hm0 (Or.inl rfl) (her i2 _ (x_p1 hm0) X_pi (by unfold p_nx; rw [e1, e2]; show p_rest _ _ _ _ _ _ _ _ _ = _; unfold p_rest; rw [if_neg (by omega), if_pos (by omega)]))
        · refine br_t (show (1 : Int) ≠ 0 by decide) ?_
          show cw_C _ _ [vr x_reader_] (cw_put (q_m m co2 hd1 fi1 se1 te2 re1 fa (x_P m i2) (x_E m i2) l2 0 cl z2) x_reader_text_ 0 (c + 1)) _
          rw [q_m_fcl]
          have hm7 : la_ok (q_m m co2 hd1 fi1 se1 te2 re1 fa (x_P m i2) (x_E m i2) l2 0 (c + 1) z2) := q_m_ok hm0
          refine Rt_advance hm0 hX (by omega) ⟨(q_m_ok hm0), ?_⟩
          refine And.intro (show -2147483648 ≤ c + 1 ∧ c + 1 < 2147483648 by omega) ?_
          show cw_R _ _ 52 [vr x_reader_, vi 1, vi 1, vi 0, vi (c + 1)] [] (q_m m co2 hd1 fi1 se1 te2 re1 fa (x_P m (i2 + 1)) (x_E m (i2 + 1)) l2 0 (c + 1) z2) _
          have CA := e_clsA hcls hal G1 C1 G2 R2 P2
          exact Re_parse52x hm0 (Or.inr rfl) (hok (acc ++ [(h1, A1, B1, k1, T2)]) _ (x_p1 hm0) X_pi (by unfold p_nx; rw [e1, e2]; show p_rest _ _ _ _ _ _ _ _ _ = _; unfold p_rest; rw [if_neg (by omega), if_neg (by omega)]) (X_ti CA G2.2.2.2 (by omega) (by rw [List.length_append]; show c + 1 = ((acc.length + 1 : Nat) : Int); omega) (by rw [List.length_append]; show acc.length + 1 ≤ 12; omega)))
      · refine br_t (show (0 : Int) = 0 by decide) ?_
        refine br_t (show (0 : Int) = 0 by decide) ?_
        refine And.intro (show -2147483648 ≤ c + 1 ∧ c + 1 < 2147483648 by omega) ?_
        show cw_R _ _ 52 [vr x_reader_, vi 1, vi 0, vi 0, vi (c + 1)] [] (q_m m co2 hd1 fi1 se1 te2 re1 (x_P m r2) s2 q2 a2 p2 cl z2) _
        exact Re_parse52x hm0 (Or.inl rfl) (her r2 _ (x_p1 hm0) X_pi (by unfold p_nx; rw [e1, e2]))
    · refine br_t (show (0 : Int) = 0 by decide) ?_
      refine br_t (show (0 : Int) = 0 by decide) ?_
      refine And.intro (show -2147483648 ≤ c + 1 ∧ c + 1 < 2147483648 by omega) ?_
      show cw_R _ _ 52 [vr x_reader_, vi 1, vi 0, vi 0, vi (c + 1)] [] (q_m m co1 hd1 fi1 se1 te1 re1 (x_P m r1) s1 q1 a1 p1 cl z1) _
      exact Re_parse52x hm0 (Or.inl rfl) (her r1 _ (x_p1 hm0) X_pi (by unfold p_nx; rw [e1]))
