/-! The class reads clauses (wip/whole/tools/m79.py). -/
def e_pt (co : Int → Int) (sz p : Int) (D : Option p_D) : Prop := match D with
  | none => p = -1
  | some T => 0 ≤ p ∧ ∃ b l, e_sg co p b l T ∧ co b = 0 ∧ p ≤ b ∧ b < sz ∧ 0 ≤ l
theorem e_ptn {co : Int → Int} {sz : Int} : e_pt co sz (-1) none := rfl
theorem e_pts {co co1 : Int → Int} {sz sz1 p : Int} {D : Option p_D} (h : e_pt co sz p D) (hs : sz ≤ sz1) (hc : ∀ j, j < sz → co1 j = co j) : e_pt co1 sz1 p D := by
  cases D with
  | none => exact h
  | some T =>
    obtain ⟨h0, b, l, h1, h2, h3, h4, h5⟩ := h
    exact ⟨h0, b, l, e_sgc h1 (fun j _ hj => hc j (by omega)), by rw [hc b h4, h2], h3, by omega, h5⟩
def p_A (o : Bool) (h : Int) (A : p_D) : Option p_D := if o = true then (if h = 3 then none else some A) else (if h = 2 then none else some A)
def p_B (o : Bool) (h : Int) (B : p_D) : Option p_D := if o = true then (if h ≤ 1 then some B else none) else none
def e_rw (c : Int) (f f1 : Int → Int) : Prop := ∀ j, j ≠ c → f1 j = f j
theorem e_rwu {c v : Int} {f : Int → Int} : e_rw c f (cw_up f c v) := fun j hj => cw_up_ne hj
theorem e_rwu2 {c v w : Int} {f : Int → Int} : e_rw c f (cw_up (cw_up f c v) c w) := fun j hj => by rw [cw_up_ne hj, cw_up_ne hj]
def e_c1 (o : Bool) (c : Int) (hd fi se te re hd1 fi1 se1 te1 re1 co1 : Int → Int) (sz1 h : Int) (A B : p_D) (k : Int) : Prop := (e_rw c hd hd1 ∧ e_rw c fi fi1 ∧ e_rw c se se1 ∧ e_rw c te te1 ∧ e_rw c re re1) ∧ hd1 c = h ∧ re1 c = k ∧ te1 c = -1 ∧ e_pt co1 sz1 (fi1 c) (p_A o h A) ∧ e_pt co1 sz1 (se1 c) (p_B o h B)
/-- a piece that ends here, at the end of the code -/
theorem e_pe {co1 : Int → Int} {sz z l : Int} {T : p_D} (h0 : 0 ≤ sz) (hl : 0 ≤ l) (hg : sz ≤ z) (h : e_sg co1 sz z l T) : e_pt (cw_up co1 z 0) (z + 1) sz (some T) :=
  ⟨h0, z, l, e_sgc h (fun j _ hj => cw_up_ne (by omega)), cw_up_eq, hg, by omega, hl⟩
theorem e_ge {co co1 : Int → Int} {sz z i i1 i0 : Int} (h : e_g co sz co1 z i i1) (hi : i0 + 1 ≤ i) : e_g co sz (cw_up co1 z 0) (z + 1) i0 i1 := by
  have h1 := h.1
  have h2 := h.2.1
  exact ⟨by omega, by omega, fun j hj => by rw [cw_up_ne (by omega), h.2.2.1 j hj], e_okup h.2.2.2 (by omega)⟩
theorem Re_begin {d : Nat} {m : cw_M} {Q : Option cw_V → cw_M → Prop} (hm0 : la_ok m) {co hd fi se te re : Int → Int} {fa st sp pa op cl sz : Int} {c h : Int} (hc : 0 ≤ c ∧ c < 12) (hq : Q none (q_m m co (cw_up hd c h) (cw_up fi c (-1)) (cw_up se c (-1)) (cw_up te c (-1)) (cw_up re c 1) fa st sp pa op cl sz)) : cw_C d k_Re_begin [vr x_reader_, vi c, vi h] (q_m m co hd fi se te re fa st sp pa op cl sz) Q := by
  have hm : la_ok (q_m m co hd fi se te re fa st sp pa op cl sz) := q_m_ok hm0
  refine la_go_C hm 34 [] ?_
  refine And.intro (show 0 ≤ c ∧ c < 12 by omega) ?_
  have hm1 : la_ok (cw_put (q_m m co hd fi se te re fa st sp pa op cl sz) x_reader_text_head_ c h) := la_put hm (by decide) (Or.inr (by decide))
  refine And.intro (show 0 ≤ c ∧ c < 12 by omega) ?_
  have hm2 : la_ok (cw_put (cw_put (q_m m co hd fi se te re fa st sp pa op cl sz) x_reader_text_head_ c h) x_reader_text_first_ c (-1)) := la_put hm1 (by decide) (Or.inr (by decide))
  refine And.intro (show 0 ≤ c ∧ c < 12 by omega) ?_
  have hm3 : la_ok (cw_put (cw_put (cw_put (q_m m co hd fi se te re fa st sp pa op cl sz) x_reader_text_head_ c h) x_reader_text_first_ c (-1)) x_reader_text_second_ c (-1)) := la_put hm2 (by decide) (Or.inr (by decide))
  refine And.intro (show 0 ≤ c ∧ c < 12 by omega) ?_
  have hm4 : la_ok (cw_put (cw_put (cw_put (cw_put (q_m m co hd fi se te re fa st sp pa op cl sz) x_reader_text_head_ c h) x_reader_text_first_ c (-1)) x_reader_text_second_ c (-1)) x_reader_text_test_ c (-1)) := la_put hm3 (by decide) (Or.inr (by decide))
  refine And.intro (show 0 ≤ c ∧ c < 12 by omega) ?_
  have hm5 : la_ok (cw_put (cw_put (cw_put (cw_put (cw_put (q_m m co hd fi se te re fa st sp pa op cl sz) x_reader_text_head_ c h) x_reader_text_first_ c (-1)) x_reader_text_second_ c (-1)) x_reader_text_test_ c (-1)) x_reader_text_repeats_ c 1) := la_put hm4 (by decide) (Or.inr (by decide))
  show Q none (cw_put (cw_put (cw_put (cw_put (cw_put (q_m m co hd fi se te re fa st sp pa op cl sz) x_reader_text_head_ c h) x_reader_text_first_ c (-1)) x_reader_text_second_ c (-1)) x_reader_text_test_ c (-1)) x_reader_text_repeats_ c 1)
  rw [q_m_phd, q_m_pfi, q_m_pse, q_m_pte, q_m_pre]
  have hm6 : la_ok (q_m m co (cw_up hd c h) (cw_up fi c (-1)) (cw_up se c (-1)) (cw_up te c (-1)) (cw_up re c 1) fa st sp pa op cl sz) := q_m_ok hm0
  exact hq
theorem Re_lawClause {d : Nat} {m : cw_M} {Q : Option cw_V → cw_M → Prop} (hm0 : la_ok m) {tk : Int} (hX : X_h m tk) (hlaw : m x_reader_ 4 = if false = true then 0 else 1) {i l : Int} {co : Int → Int} {sz : Int} {hd fi se te re : Int → Int} {fa cl c : Int} (hc : 0 ≤ c ∧ c < 12) (h0 : 0 ≤ i) (h1 : i ≤ tk) (hl0 : 0 ≤ l) (hl1 : l ≤ 50) (hz0 : 0 ≤ sz) (hzi : sz ≤ i) (he0 : e_ok co sz) (hok : ∀ i1 l1 h A B k co1 hd1 fi1 se1 te1 re1 sz1, p_one (x_c m) (x_v m) false i l = p_ift (x_c m) (x_v m) false h A B k i1 l1 → i < i1 → i1 ≤ tk → l ≤ l1 → l1 ≤ 50 → e_g co sz co1 sz1 i i1 → e_c1 false c hd fi se te re hd1 fi1 se1 te1 re1 co1 sz1 h A B k → Q (some (vi 1)) (q_m m co1 hd1 fi1 se1 te1 re1 fa (x_P m i1) (x_E m i1) l1 0 cl sz1)) (her : ∀ er co1 hd1 fi1 se1 te1 re1 st1 sp1 pa1 op1 sz1, p_one (x_c m) (x_v m) false i l = .error er → Q (some (vi 0)) (q_m m co1 hd1 fi1 se1 te1 re1 (x_P m er) st1 sp1 pa1 op1 cl sz1)) : cw_C (d + 40) k_Re_lawClause [vr x_reader_, vi c] (q_m m co hd fi se te re fa (x_P m i) (x_E m i) l 0 cl sz) Q := by
  have hm : la_ok (q_m m co hd fi se te re fa (x_P m i) (x_E m i) l 0 cl sz) := q_m_ok hm0
  have hz : x_c m tk = 0 := k_Cz hX.2.2.2
  have tkn : 0 ≤ tk ∧ tk ≤ 400 := ⟨hX.2.2.2.1.1, by have := hX.2.2.2.1.2; have := hX.2.1; omega⟩
  have ltn : ∀ z, 0 ≤ z → z ≤ tk → x_c m z ≠ 0 → z < tk := fun z _ _ q => by
    by_cases e : z = tk
    · rw [e] at q; exact absurd hz q
    · omega
  have hlt : x_c m i ≠ 0 → i < tk := ltn i h0 h1
  have hi1 : x_c m i = 1 ∨ x_c m i = 2 ∨ x_c m i = 3 → i < tk := fun q => hlt (by omega)
  refine la_go_C hm 37 [] ?_
  show cw_C _ _ [vr x_reader_, vr 11534348] (q_m m co hd fi se te re fa (x_P m i) (x_E m i) l 0 cl sz) _
  refine Rt_word7 hm0 hX (fun (a1 : x_c m i = 1) => ⟨hm, ?_⟩) (fun (a1 : x_c m i = 2) => ⟨hm, ?_⟩) (fun (a1 : x_c m i = 3) => ⟨hm, ?_⟩) (fun (a1 : ¬ (x_c m i = 1 ∨ x_c m i = 2 ∨ x_c m i = 3)) => ⟨hm, ?_⟩)
  · refine br_t (show (0 : Int) ≠ (-1) by decide) ?_
    show cw_C _ _ [vr x_reader_] (q_m m co hd fi se te re fa (x_P m i) (x_E m i) l 0 cl sz) _
    refine Rt_advance hm0 hX (by omega) ⟨(q_m_ok hm0), ?_⟩
    show cw_C _ _ [vr x_reader_, vi c, vi 0] (q_m m co hd fi se te re fa (x_P m (i + 1)) (x_E m (i + 1)) l 0 cl sz) _
    refine Re_begin hm0 (by omega) ⟨(q_m_ok hm0), ?_⟩
    refine br_t (show (0 : Int) ≠ 2 by decide) ?_
    refine And.intro (show 0 ≤ c ∧ c < 12 by omega) ?_
    have hm2 : la_ok (cw_put (q_m m co (cw_up hd c 0) (cw_up fi c (-1)) (cw_up se c (-1)) (cw_up te c (-1)) (cw_up re c 1) fa (x_P m (i + 1)) (x_E m (i + 1)) l 0 cl sz) x_reader_text_first_ c sz) := la_put (q_m_ok hm0) (by decide) (Or.inr (by decide))
    show cw_C _ _ [vr x_reader_, vi 0] (cw_put (q_m m co (cw_up hd c 0) (cw_up fi c (-1)) (cw_up se c (-1)) (cw_up te c (-1)) (cw_up re c 1) fa (x_P m (i + 1)) (x_E m (i + 1)) l 0 cl sz) x_reader_text_first_ c sz) _
    rw [q_m_pfi]
    have hm3 : la_ok (q_m m co (cw_up hd c 0) (cw_up (cw_up fi c (-1)) c sz) (cw_up se c (-1)) (cw_up te c (-1)) (cw_up re c 1) fa (x_P m (i + 1)) (x_E m (i + 1)) l 0 cl sz) := q_m_ok hm0
    refine (Re_S hm0 hX hlaw 2100).2.2.2.1 _ 0 (i + 1) l p_z co sz (cw_up hd c 0) (cw_up (cw_up fi c (-1)) c sz) (cw_up se c (-1)) (cw_up te c (-1)) (cw_up re c 1) fa cl _ (by omega) (by omega) (by omega) (by omega) (by omega) (by omega) (by omega) (by omega) he0 (by omega) (by omega) (fun (i4 l4 : Int) (D4 : p_D) (co4 : Int → Int) (z4 : Int) (e4 : p_s (x_c m) (x_v m) false 2100 3 0 (i + 1) l p_z = .ok (i4, l4, D4)) (G4 : e_g co sz co4 z4 (i + 1) i4) (T4 : e_sg co4 sz z4 l D4) => ⟨(q_m_ok hm0), ?_⟩) (fun (r4 : Int) (co4 : Int → Int) (s4 q4 a4 p4 z4 : Int) (e4 : p_s (x_c m) (x_v m) false 2100 3 0 (i + 1) l p_z = .error r4) => ⟨(q_m_ok hm0), ?_⟩)
    · have N4 := p_Nok ((p_sN (c := x_c m) (v := x_v m) (o := false) hz 2100 (dp := 0) (i := i + 1) (l := l) (acc := p_z) (by omega) (by omega) (by omega) (by omega)).2.2.2.1 (by omega)) e4
      have S4 := N4.2.2.2.2 rfl
      have G41 := G4.1
      have G42 := G4.2.1
      have L4 : x_c m i4 ≠ 0 → i4 < tk := ltn _ (by omega) (by omega)
      refine br_f (show ¬ ((1 : Int) = 0) by decide) ?_
      show cw_C _ _ [vr x_reader_] (q_m m co4 (cw_up hd c 0) (cw_up (cw_up fi c (-1)) c sz) (cw_up se c (-1)) (cw_up te c (-1)) (cw_up re c 1) fa (x_P m i4) (x_E m i4) l4 0 cl z4) _
      refine Re_finish hm0 (by omega) ⟨(q_m_ok hm0), ?_⟩
      refine br_f (show ¬ ((1 : Int) = 0) by decide) ?_
      refine And.intro (Or.inr rfl) ?_
      show Q (some (vi 1)) (q_m m (cw_up co4 z4 0) (cw_up hd c 0) (cw_up (cw_up fi c (-1)) c sz) (cw_up se c (-1)) (cw_up te c (-1)) (cw_up re c 1) fa (x_P m i4) (x_E m i4) l4 0 cl (z4 + 1))
      exact hok _ _ 0 D4 p_z 1 _ _ _ _ _ _ _ (by rw [p_oneL, if_pos (by omega), e4]; show p_ift _ _ _ (x_c m i - 1) _ _ _ _ _ = _; rw [show x_c m i - 1 = 0 by omega]) (by omega) (by omega) (by omega) (by omega) (e_ge G4 (by omega)) ⟨⟨e_rwu, e_rwu2, e_rwu, e_rwu, e_rwu⟩, cw_up_eq, cw_up_eq, cw_up_eq, by rw [cw_up_eq]; exact e_pe hz0 (by omega) G41 T4, by rw [cw_up_eq]; exact e_ptn⟩
    · refine br_t (show (0 : Int) = 0 by decide) ?_
      refine And.intro (Or.inl rfl) ?_
      show Q (some (vi 0)) (q_m m co4 (cw_up hd c 0) (cw_up (cw_up fi c (-1)) c sz) (cw_up se c (-1)) (cw_up te c (-1)) (cw_up re c 1) (x_P m r4) s4 q4 a4 p4 cl z4)
      exact her r4 _ _ _ _ _ _ _ _ _ _ _ (by rw [p_oneL, if_pos (by omega), e4])
  · refine br_t (show (1 : Int) ≠ (-1) by decide) ?_
    show cw_C _ _ [vr x_reader_] (q_m m co hd fi se te re fa (x_P m i) (x_E m i) l 0 cl sz) _
    refine Rt_advance hm0 hX (by omega) ⟨(q_m_ok hm0), ?_⟩
    show cw_C _ _ [vr x_reader_, vi c, vi 1] (q_m m co hd fi se te re fa (x_P m (i + 1)) (x_E m (i + 1)) l 0 cl sz) _
    refine Re_begin hm0 (by omega) ⟨(q_m_ok hm0), ?_⟩
    refine br_t (show (1 : Int) ≠ 2 by decide) ?_
    refine And.intro (show 0 ≤ c ∧ c < 12 by omega) ?_
    have hm5 : la_ok (cw_put (q_m m co (cw_up hd c 1) (cw_up fi c (-1)) (cw_up se c (-1)) (cw_up te c (-1)) (cw_up re c 1) fa (x_P m (i + 1)) (x_E m (i + 1)) l 0 cl sz) x_reader_text_first_ c sz) := la_put (q_m_ok hm0) (by decide) (Or.inr (by decide))
    show cw_C _ _ [vr x_reader_, vi 0] (cw_put (q_m m co (cw_up hd c 1) (cw_up fi c (-1)) (cw_up se c (-1)) (cw_up te c (-1)) (cw_up re c 1) fa (x_P m (i + 1)) (x_E m (i + 1)) l 0 cl sz) x_reader_text_first_ c sz) _
    rw [q_m_pfi]
    have hm6 : la_ok (q_m m co (cw_up hd c 1) (cw_up (cw_up fi c (-1)) c sz) (cw_up se c (-1)) (cw_up te c (-1)) (cw_up re c 1) fa (x_P m (i + 1)) (x_E m (i + 1)) l 0 cl sz) := q_m_ok hm0
    refine (Re_S hm0 hX hlaw 2100).2.2.2.1 _ 0 (i + 1) l p_z co sz (cw_up hd c 1) (cw_up (cw_up fi c (-1)) c sz) (cw_up se c (-1)) (cw_up te c (-1)) (cw_up re c 1) fa cl _ (by omega) (by omega) (by omega) (by omega) (by omega) (by omega) (by omega) (by omega) he0 (by omega) (by omega) (fun (i7 l7 : Int) (D7 : p_D) (co7 : Int → Int) (z7 : Int) (e7 : p_s (x_c m) (x_v m) false 2100 3 0 (i + 1) l p_z = .ok (i7, l7, D7)) (G7 : e_g co sz co7 z7 (i + 1) i7) (T7 : e_sg co7 sz z7 l D7) => ⟨(q_m_ok hm0), ?_⟩) (fun (r7 : Int) (co7 : Int → Int) (s7 q7 a7 p7 z7 : Int) (e7 : p_s (x_c m) (x_v m) false 2100 3 0 (i + 1) l p_z = .error r7) => ⟨(q_m_ok hm0), ?_⟩)
    · have N7 := p_Nok ((p_sN (c := x_c m) (v := x_v m) (o := false) hz 2100 (dp := 0) (i := i + 1) (l := l) (acc := p_z) (by omega) (by omega) (by omega) (by omega)).2.2.2.1 (by omega)) e7
      have S7 := N7.2.2.2.2 rfl
      have G71 := G7.1
      have G72 := G7.2.1
      have L7 : x_c m i7 ≠ 0 → i7 < tk := ltn _ (by omega) (by omega)
      refine br_f (show ¬ ((1 : Int) = 0) by decide) ?_
      show cw_C _ _ [vr x_reader_] (q_m m co7 (cw_up hd c 1) (cw_up (cw_up fi c (-1)) c sz) (cw_up se c (-1)) (cw_up te c (-1)) (cw_up re c 1) fa (x_P m i7) (x_E m i7) l7 0 cl z7) _
      refine Re_finish hm0 (by omega) ⟨(q_m_ok hm0), ?_⟩
      refine br_f (show ¬ ((1 : Int) = 0) by decide) ?_
      refine And.intro (Or.inr rfl) ?_
      show Q (some (vi 1)) (q_m m (cw_up co7 z7 0) (cw_up hd c 1) (cw_up (cw_up fi c (-1)) c sz) (cw_up se c (-1)) (cw_up te c (-1)) (cw_up re c 1) fa (x_P m i7) (x_E m i7) l7 0 cl (z7 + 1))
      exact hok _ _ 1 D7 p_z 1 _ _ _ _ _ _ _ (by rw [p_oneL, if_pos (by omega), e7]; show p_ift _ _ _ (x_c m i - 1) _ _ _ _ _ = _; rw [show x_c m i - 1 = 1 by omega]) (by omega) (by omega) (by omega) (by omega) (e_ge G7 (by omega)) ⟨⟨e_rwu, e_rwu2, e_rwu, e_rwu, e_rwu⟩, cw_up_eq, cw_up_eq, cw_up_eq, by rw [cw_up_eq]; exact e_pe hz0 (by omega) G71 T7, by rw [cw_up_eq]; exact e_ptn⟩
    · refine br_t (show (0 : Int) = 0 by decide) ?_
      refine And.intro (Or.inl rfl) ?_
      show Q (some (vi 0)) (q_m m co7 (cw_up hd c 1) (cw_up (cw_up fi c (-1)) c sz) (cw_up se c (-1)) (cw_up te c (-1)) (cw_up re c 1) (x_P m r7) s7 q7 a7 p7 cl z7)
      exact her r7 _ _ _ _ _ _ _ _ _ _ _ (by rw [p_oneL, if_pos (by omega), e7])
  · refine br_t (show (2 : Int) ≠ (-1) by decide) ?_
    show cw_C _ _ [vr x_reader_] (q_m m co hd fi se te re fa (x_P m i) (x_E m i) l 0 cl sz) _
    refine Rt_advance hm0 hX (by omega) ⟨(q_m_ok hm0), ?_⟩
    show cw_C _ _ [vr x_reader_, vi c, vi 2] (q_m m co hd fi se te re fa (x_P m (i + 1)) (x_E m (i + 1)) l 0 cl sz) _
    refine Re_begin hm0 (by omega) ⟨(q_m_ok hm0), ?_⟩
    refine br_f (show ¬ ((2 : Int) ≠ 2) by decide) ?_
    refine And.intro (Or.inr rfl) ?_
    show Q (some (vi 1)) (q_m m co (cw_up hd c 2) (cw_up fi c (-1)) (cw_up se c (-1)) (cw_up te c (-1)) (cw_up re c 1) fa (x_P m (i + 1)) (x_E m (i + 1)) l 0 cl sz)
    exact hok _ _ 2 p_z p_z 1 _ _ _ _ _ _ _ (by rw [p_oneL, if_neg (by omega), if_pos (by omega)]) (by omega) (by omega) (by omega) (by omega) ⟨Int.le_refl _, by omega, fun _ _ => rfl, he0⟩ ⟨⟨e_rwu, e_rwu, e_rwu, e_rwu, e_rwu⟩, cw_up_eq, cw_up_eq, cw_up_eq, by rw [cw_up_eq]; exact e_ptn, by rw [cw_up_eq]; exact e_ptn⟩
  · refine br_f (show ¬ ((-1 : Int) ≠ (-1)) by decide) ?_
    show cw_C _ _ [vr x_reader_] (q_m m co hd fi se te re fa (x_P m i) (x_E m i) l 0 cl sz) _
    refine Re_fail hm0 ⟨(q_m_ok hm0), ?_⟩
    refine And.intro (Or.inl rfl) ?_
    show Q (some (vi 0)) (q_m m co hd fi se te re (x_P m i) (x_P m i) (x_E m i) l 0 cl sz)
    exact her _ _ _ _ _ _ _ _ _ _ _ _ (by rw [p_oneL, if_neg (by omega), if_neg (by omega)])
set_option maxHeartbeats 4000000 in
theorem Re_orderClause {d : Nat} {m : cw_M} {Q : Option cw_V → cw_M → Prop} (hm0 : la_ok m) {tk : Int} (hX : X_h m tk) (hlaw : m x_reader_ 4 = if true = true then 0 else 1) {i l : Int} {co : Int → Int} {sz : Int} {hd fi se te re : Int → Int} {fa cl c : Int} (hc : 0 ≤ c ∧ c < 12) (h0 : 0 ≤ i) (h1 : i ≤ tk) (hl0 : 0 ≤ l) (hl1 : l ≤ 50) (hz0 : 0 ≤ sz) (hzi : sz ≤ i) (he0 : e_ok co sz) (hok : ∀ i1 l1 h A B k co1 hd1 fi1 se1 te1 re1 sz1, p_one (x_c m) (x_v m) true i l = p_ift (x_c m) (x_v m) true h A B k i1 l1 → i < i1 → i1 ≤ tk → l ≤ l1 → l1 ≤ 50 → e_g co sz co1 sz1 i i1 → e_c1 true c hd fi se te re hd1 fi1 se1 te1 re1 co1 sz1 h A B k → Q (some (vi 1)) (q_m m co1 hd1 fi1 se1 te1 re1 fa (x_P m i1) (x_E m i1) l1 0 cl sz1)) (her : ∀ er co1 hd1 fi1 se1 te1 re1 st1 sp1 pa1 op1 sz1, p_one (x_c m) (x_v m) true i l = .error er → Q (some (vi 0)) (q_m m co1 hd1 fi1 se1 te1 re1 (x_P m er) st1 sp1 pa1 op1 cl sz1)) : cw_C (d + 40) k_Re_orderClause [vr x_reader_, vi c] (q_m m co hd fi se te re fa (x_P m i) (x_E m i) l 0 cl sz) Q := by
  have hm : la_ok (q_m m co hd fi se te re fa (x_P m i) (x_E m i) l 0 cl sz) := q_m_ok hm0
  have hz : x_c m tk = 0 := k_Cz hX.2.2.2
  have tkn : 0 ≤ tk ∧ tk ≤ 400 := ⟨hX.2.2.2.1.1, by have := hX.2.2.2.1.2; have := hX.2.1; omega⟩
  have ltn : ∀ z, 0 ≤ z → z ≤ tk → x_c m z ≠ 0 → z < tk := fun z _ _ q => by
    by_cases e : z = tk
    · rw [e] at q; exact absurd hz q
    · omega
  have hlt : x_c m i ≠ 0 → i < tk := ltn i h0 h1
  have hi1 : x_c m i = 20 ∨ x_c m i = 23 ∨ x_c m i = 25 ∨ x_c m i = 26 → i < tk := fun q => hlt (by omega)
  have lt1 : i + 1 ≤ tk → x_c m (i + 1) ≠ 0 → i + 1 < tk := fun q => ltn _ (by omega) q
  refine la_go_C hm 89 [] ?_
  show cw_C _ _ [vr x_reader_, vr 13631500] (q_m m co hd fi se te re fa (x_P m i) (x_E m i) l 0 cl sz) _
  refine Rt_word9 hm0 hX (fun (a1 : x_c m i = 20) => ⟨hm, ?_⟩) (fun (a1 : x_c m i = 23) => ⟨hm, ?_⟩) (fun (a1 : x_c m i = 25) => ⟨hm, ?_⟩) (fun (a1 : x_c m i = 26) => ⟨hm, ?_⟩) (fun (a1 : ¬ (x_c m i = 20 ∨ x_c m i = 23 ∨ x_c m i = 25 ∨ x_c m i = 26)) => ⟨hm, ?_⟩)
  · refine br_t (show (0 : Int) ≠ (-1) by decide) ?_
    show cw_C _ _ [vr x_reader_] (q_m m co hd fi se te re fa (x_P m i) (x_E m i) l 0 cl sz) _
    refine Rt_advance hm0 hX (by omega) ⟨(q_m_ok hm0), ?_⟩
    show cw_C _ _ [vr x_reader_, vi c, vi 0] (q_m m co hd fi se te re fa (x_P m (i + 1)) (x_E m (i + 1)) l 0 cl sz) _
    refine Re_begin hm0 (by omega) ⟨(q_m_ok hm0), ?_⟩
    refine br_f (show ¬ ((0 : Int) = 3) by decide) ?_
    refine And.intro (show 0 ≤ c ∧ c < 12 by omega) ?_
    have hm2 : la_ok (cw_put (q_m m co (cw_up hd c 0) (cw_up fi c (-1)) (cw_up se c (-1)) (cw_up te c (-1)) (cw_up re c 1) fa (x_P m (i + 1)) (x_E m (i + 1)) l 0 cl sz) x_reader_text_first_ c sz) := la_put (q_m_ok hm0) (by decide) (Or.inr (by decide))
    show cw_C _ _ [vr x_reader_, vi 0] (cw_put (q_m m co (cw_up hd c 0) (cw_up fi c (-1)) (cw_up se c (-1)) (cw_up te c (-1)) (cw_up re c 1) fa (x_P m (i + 1)) (x_E m (i + 1)) l 0 cl sz) x_reader_text_first_ c sz) _
    rw [q_m_pfi]
    have hm3 : la_ok (q_m m co (cw_up hd c 0) (cw_up (cw_up fi c (-1)) c sz) (cw_up se c (-1)) (cw_up te c (-1)) (cw_up re c 1) fa (x_P m (i + 1)) (x_E m (i + 1)) l 0 cl sz) := q_m_ok hm0
    refine (Re_S hm0 hX hlaw 2100).2.2.2.1 _ 0 (i + 1) l p_z co sz (cw_up hd c 0) (cw_up (cw_up fi c (-1)) c sz) (cw_up se c (-1)) (cw_up te c (-1)) (cw_up re c 1) fa cl _ (by omega) (by omega) (by omega) (by omega) (by omega) (by omega) (by omega) (by omega) he0 (by omega) (by omega) (fun (i4 l4 : Int) (D4 : p_D) (co4 : Int → Int) (z4 : Int) (e4 : p_s (x_c m) (x_v m) true 2100 3 0 (i + 1) l p_z = .ok (i4, l4, D4)) (G4 : e_g co sz co4 z4 (i + 1) i4) (T4 : e_sg co4 sz z4 l D4) => ⟨(q_m_ok hm0), ?_⟩) (fun (r4 : Int) (co4 : Int → Int) (s4 q4 a4 p4 z4 : Int) (e4 : p_s (x_c m) (x_v m) true 2100 3 0 (i + 1) l p_z = .error r4) => ⟨(q_m_ok hm0), ?_⟩)
    · have N4 := p_Nok ((p_sN (c := x_c m) (v := x_v m) (o := true) hz 2100 (dp := 0) (i := i + 1) (l := l) (acc := p_z) (by omega) (by omega) (by omega) (by omega)).2.2.2.1 (by omega)) e4
      have S4 := N4.2.2.2.2 rfl
      have G41 := G4.1
      have G42 := G4.2.1
      have L4 : x_c m i4 ≠ 0 → i4 < tk := ltn _ (by omega) (by omega)
      refine br_f (show ¬ ((1 : Int) = 0) by decide) ?_
      show cw_C _ _ [vr x_reader_] (q_m m co4 (cw_up hd c 0) (cw_up (cw_up fi c (-1)) c sz) (cw_up se c (-1)) (cw_up te c (-1)) (cw_up re c 1) fa (x_P m i4) (x_E m i4) l4 0 cl z4) _
      refine Re_finish hm0 (by omega) ⟨(q_m_ok hm0), ?_⟩
      refine br_t (show (1 : Int) ≠ 0 by decide) ?_
      refine br_t (show (0 : Int) = 0 by decide) ?_
      refine br_f (show ¬ ((0 : Int) ≠ 0) by decide) ?_
      show cw_C _ _ [vr x_reader_, vr 7340044] (q_m m (cw_up co4 z4 0) (cw_up hd c 0) (cw_up (cw_up fi c (-1)) c sz) (cw_up se c (-1)) (cw_up te c (-1)) (cw_up re c 1) fa (x_P m i4) (x_E m i4) l4 0 cl (z4 + 1)) _
      refine Rt_word3 hm0 hX (fun (a5 : x_c m i4 = 22) => ⟨(q_m_ok hm0), ?_⟩) (fun (a5 : ¬ (x_c m i4 = 22)) => ⟨(q_m_ok hm0), ?_⟩)
      · refine br_t (show (0 : Int) ≠ (-1) by decide) ?_
        show cw_C _ _ [vr x_reader_] (q_m m (cw_up co4 z4 0) (cw_up hd c 0) (cw_up (cw_up fi c (-1)) c sz) (cw_up se c (-1)) (cw_up te c (-1)) (cw_up re c 1) fa (x_P m i4) (x_E m i4) l4 0 cl (z4 + 1)) _
        refine Rt_advance hm0 hX (by omega) ⟨(q_m_ok hm0), ?_⟩
        refine And.intro (show 0 ≤ c ∧ c < 12 by omega) ?_
        have hm6 : la_ok (cw_put (q_m m (cw_up co4 z4 0) (cw_up hd c 0) (cw_up (cw_up fi c (-1)) c sz) (cw_up se c (-1)) (cw_up te c (-1)) (cw_up re c 1) fa (x_P m (i4 + 1)) (x_E m (i4 + 1)) l4 0 cl (z4 + 1)) x_reader_text_second_ c (z4 + 1)) := la_put (q_m_ok hm0) (by decide) (Or.inr (by decide))
        show cw_C _ _ [vr x_reader_, vi 0] (cw_put (q_m m (cw_up co4 z4 0) (cw_up hd c 0) (cw_up (cw_up fi c (-1)) c sz) (cw_up se c (-1)) (cw_up te c (-1)) (cw_up re c 1) fa (x_P m (i4 + 1)) (x_E m (i4 + 1)) l4 0 cl (z4 + 1)) x_reader_text_second_ c (z4 + 1)) _
        rw [q_m_pse]
        have hm7 : la_ok (q_m m (cw_up co4 z4 0) (cw_up hd c 0) (cw_up (cw_up fi c (-1)) c sz) (cw_up (cw_up se c (-1)) c (z4 + 1)) (cw_up te c (-1)) (cw_up re c 1) fa (x_P m (i4 + 1)) (x_E m (i4 + 1)) l4 0 cl (z4 + 1)) := q_m_ok hm0
        refine (Re_S hm0 hX hlaw 2100).2.2.2.1 _ 0 (i4 + 1) l4 p_z (cw_up co4 z4 0) (z4 + 1) (cw_up hd c 0) (cw_up (cw_up fi c (-1)) c sz) (cw_up (cw_up se c (-1)) c (z4 + 1)) (cw_up te c (-1)) (cw_up re c 1) fa cl _ (by omega) (by omega) (by omega) (by omega) (by omega) (by omega) (by omega) (by omega) (e_okup G4.2.2.2 (by omega)) (by omega) (by omega) (fun (i8 l8 : Int) (D8 : p_D) (co8 : Int → Int) (z8 : Int) (e8 : p_s (x_c m) (x_v m) true 2100 3 0 (i4 + 1) l4 p_z = .ok (i8, l8, D8)) (G8 : e_g (cw_up co4 z4 0) (z4 + 1) co8 z8 (i4 + 1) i8) (T8 : e_sg co8 (z4 + 1) z8 l4 D8) => ⟨(q_m_ok hm0), ?_⟩) (fun (r8 : Int) (co8 : Int → Int) (s8 q8 a8 p8 z8 : Int) (e8 : p_s (x_c m) (x_v m) true 2100 3 0 (i4 + 1) l4 p_z = .error r8) => ⟨(q_m_ok hm0), ?_⟩)
        · have N8 := p_Nok ((p_sN (c := x_c m) (v := x_v m) (o := true) hz 2100 (dp := 0) (i := i4 + 1) (l := l4) (acc := p_z) (by omega) (by omega) (by omega) (by omega)).2.2.2.1 (by omega)) e8
          have S8 := N8.2.2.2.2 rfl
          have G81 := G8.1
          have G82 := G8.2.1
          have L8 : x_c m i8 ≠ 0 → i8 < tk := ltn _ (by omega) (by omega)
          refine br_f (show ¬ ((1 : Int) = 0) by decide) ?_
          show cw_C _ _ [vr x_reader_] (q_m m co8 (cw_up hd c 0) (cw_up (cw_up fi c (-1)) c sz) (cw_up (cw_up se c (-1)) c (z4 + 1)) (cw_up te c (-1)) (cw_up re c 1) fa (x_P m i8) (x_E m i8) l8 0 cl z8) _
          refine Re_finish hm0 (by omega) ⟨(q_m_ok hm0), ?_⟩
          refine br_t (show (1 : Int) ≠ 0 by decide) ?_
          show cw_C _ _ [vr x_reader_, vr 9437196] (q_m m (cw_up co8 z8 0) (cw_up hd c 0) (cw_up (cw_up fi c (-1)) c sz) (cw_up (cw_up se c (-1)) c (z4 + 1)) (cw_up te c (-1)) (cw_up re c 1) fa (x_P m i8) (x_E m i8) l8 0 cl (z8 + 1)) _
          refine Rt_word5 hm0 hX (fun (a9 : x_c m i8 = 13) => ⟨(q_m_ok hm0), ?_⟩) (fun (a9 : ¬ (x_c m i8 = 13)) => ⟨(q_m_ok hm0), ?_⟩)
          · refine br_f (show ¬ ((0 : Int) = (-1)) by decide) ?_
            show cw_C _ _ [vr x_reader_] (q_m m (cw_up co8 z8 0) (cw_up hd c 0) (cw_up (cw_up fi c (-1)) c sz) (cw_up (cw_up se c (-1)) c (z4 + 1)) (cw_up te c (-1)) (cw_up re c 1) fa (x_P m i8) (x_E m i8) l8 0 cl (z8 + 1)) _
            refine Rt_advance hm0 hX (by omega) ⟨(q_m_ok hm0), ?_⟩
            show cw_C _ _ [vr x_reader_] (q_m m (cw_up co8 z8 0) (cw_up hd c 0) (cw_up (cw_up fi c (-1)) c sz) (cw_up (cw_up se c (-1)) c (z4 + 1)) (cw_up te c (-1)) (cw_up re c 1) fa (x_P m (i8 + 1)) (x_E m (i8 + 1)) l8 0 cl (z8 + 1)) _
            refine Rt_number hm0 hX (fun (a10 : x_c m (i8 + 1) = 50) (a11 : 0 ≤ x_v m (i8 + 1)) => ⟨(q_m_ok hm0), ?_⟩) (fun (a10 : x_c m (i8 + 1) ≠ 50) => ⟨(q_m_ok hm0), ?_⟩)
            · have Xa10 : i8 + 1 < tk := ltn _ (by omega) (by omega) (by omega)
              refine And.intro (fun (c12 : min 10000 (x_v m (i8 + 1)) < 1) => ?_) (fun (c12 : ¬ (min 10000 (x_v m (i8 + 1)) < 1)) => ?_)
              · show cw_C _ _ [vr x_reader_] (q_m m (cw_up co8 z8 0) (cw_up hd c 0) (cw_up (cw_up fi c (-1)) c sz) (cw_up (cw_up se c (-1)) c (z4 + 1)) (cw_up te c (-1)) (cw_up re c 1) fa (x_P m (i8 + 1)) (x_E m (i8 + 1)) l8 0 cl (z8 + 1)) _
                refine Re_fail hm0 ⟨(q_m_ok hm0), ?_⟩
                refine And.intro (Or.inl rfl) ?_
                show Q (some (vi 0)) (q_m m (cw_up co8 z8 0) (cw_up hd c 0) (cw_up (cw_up fi c (-1)) c sz) (cw_up (cw_up se c (-1)) c (z4 + 1)) (cw_up te c (-1)) (cw_up re c 1) (x_P m (i8 + 1)) (x_P m (i8 + 1)) (x_E m (i8 + 1)) l8 0 cl (z8 + 1))
                exact her _ _ _ _ _ _ _ _ _ _ _ _ (by rw [p_oneO, if_pos (by omega)]; unfold p_two; rw [e4]; show (if _ then _ else _) = _; rw [if_pos (by omega), e8]; show p_tim _ _ _ _ _ _ _ _ = _; unfold p_tim; rw [if_pos (by omega), if_neg (by omega)])
              · refine And.intro (fun (c13 : min 10000 (x_v m (i8 + 1)) ≤ 20) => ?_) (fun (c13 : ¬ (min 10000 (x_v m (i8 + 1)) ≤ 20)) => ?_)
                · show cw_C _ _ [vr x_reader_] (q_m m (cw_up co8 z8 0) (cw_up hd c 0) (cw_up (cw_up fi c (-1)) c sz) (cw_up (cw_up se c (-1)) c (z4 + 1)) (cw_up te c (-1)) (cw_up re c 1) fa (x_P m (i8 + 1)) (x_E m (i8 + 1)) l8 0 cl (z8 + 1)) _
                  refine Rt_advance hm0 hX (by omega) ⟨(q_m_ok hm0), ?_⟩
                  refine And.intro (show 0 ≤ c ∧ c < 12 by omega) ?_
                  have hm14 : la_ok (cw_put (q_m m (cw_up co8 z8 0) (cw_up hd c 0) (cw_up (cw_up fi c (-1)) c sz) (cw_up (cw_up se c (-1)) c (z4 + 1)) (cw_up te c (-1)) (cw_up re c 1) fa (x_P m (i8 + 1 + 1)) (x_E m (i8 + 1 + 1)) l8 0 cl (z8 + 1)) x_reader_text_repeats_ c (min 10000 (x_v m (i8 + 1)))) := la_put (q_m_ok hm0) (by decide) (Or.inr (by decide))
                  refine And.intro (Or.inr rfl) ?_
                  show Q (some (vi 1)) (cw_put (q_m m (cw_up co8 z8 0) (cw_up hd c 0) (cw_up (cw_up fi c (-1)) c sz) (cw_up (cw_up se c (-1)) c (z4 + 1)) (cw_up te c (-1)) (cw_up re c 1) fa (x_P m (i8 + 1 + 1)) (x_E m (i8 + 1 + 1)) l8 0 cl (z8 + 1)) x_reader_text_repeats_ c (min 10000 (x_v m (i8 + 1))))
                  rw [q_m_pre]
                  have hm15 : la_ok (q_m m (cw_up co8 z8 0) (cw_up hd c 0) (cw_up (cw_up fi c (-1)) c sz) (cw_up (cw_up se c (-1)) c (z4 + 1)) (cw_up te c (-1)) (cw_up (cw_up re c 1) c (min 10000 (x_v m (i8 + 1)))) fa (x_P m (i8 + 1 + 1)) (x_E m (i8 + 1 + 1)) l8 0 cl (z8 + 1)) := q_m_ok hm0
                  rw [show i8 + 1 + 1 = i8 + 2 by omega]
                  exact hok _ _ 0 D4 D8 (x_v m (i8 + 1)) _ _ _ _ _ _ _ (by rw [p_oneO, if_pos (by omega)]; unfold p_two; rw [e4]; show (if _ then _ else _) = _; rw [if_pos (by omega), e8]; show p_tim _ _ _ _ _ _ _ _ = _; unfold p_tim; rw [if_pos (by omega), if_pos (by omega)]) (by omega) (by omega) (by omega) (by omega) (e_gw (e_gt (e_ge G4 (i0 := i) (by omega)) (e_ge G8 (i0 := i4) (by omega))) (by omega)) ⟨⟨e_rwu, e_rwu2, e_rwu2, e_rwu, e_rwu2⟩, cw_up_eq, by rw [cw_up_eq]; omega, cw_up_eq, by rw [cw_up_eq]; exact e_pts (e_pe hz0 (by omega) G41 T4) (by omega) (fun j hj => by rw [cw_up_ne (by omega), G8.2.2.1 j hj]), by rw [cw_up_eq]; exact e_pe (by omega) (by omega) G81 T8⟩
                · show cw_C _ _ [vr x_reader_] (q_m m (cw_up co8 z8 0) (cw_up hd c 0) (cw_up (cw_up fi c (-1)) c sz) (cw_up (cw_up se c (-1)) c (z4 + 1)) (cw_up te c (-1)) (cw_up re c 1) fa (x_P m (i8 + 1)) (x_E m (i8 + 1)) l8 0 cl (z8 + 1)) _
                  refine Re_fail hm0 ⟨(q_m_ok hm0), ?_⟩
                  refine And.intro (Or.inl rfl) ?_
                  show Q (some (vi 0)) (q_m m (cw_up co8 z8 0) (cw_up hd c 0) (cw_up (cw_up fi c (-1)) c sz) (cw_up (cw_up se c (-1)) c (z4 + 1)) (cw_up te c (-1)) (cw_up re c 1) (x_P m (i8 + 1)) (x_P m (i8 + 1)) (x_E m (i8 + 1)) l8 0 cl (z8 + 1))
                  exact her _ _ _ _ _ _ _ _ _ _ _ _ (by rw [p_oneO, if_pos (by omega)]; unfold p_two; rw [e4]; show (if _ then _ else _) = _; rw [if_pos (by omega), e8]; show p_tim _ _ _ _ _ _ _ _ = _; unfold p_tim; rw [if_pos (by omega), if_neg (by omega)])
            · refine br_t (show (-1 : Int) < 1 by decide) ?_
              show cw_C _ _ [vr x_reader_] (q_m m (cw_up co8 z8 0) (cw_up hd c 0) (cw_up (cw_up fi c (-1)) c sz) (cw_up (cw_up se c (-1)) c (z4 + 1)) (cw_up te c (-1)) (cw_up re c 1) fa (x_P m (i8 + 1)) (x_E m (i8 + 1)) l8 0 cl (z8 + 1)) _
              refine Re_fail hm0 ⟨(q_m_ok hm0), ?_⟩
              refine And.intro (Or.inl rfl) ?_
              show Q (some (vi 0)) (q_m m (cw_up co8 z8 0) (cw_up hd c 0) (cw_up (cw_up fi c (-1)) c sz) (cw_up (cw_up se c (-1)) c (z4 + 1)) (cw_up te c (-1)) (cw_up re c 1) (x_P m (i8 + 1)) (x_P m (i8 + 1)) (x_E m (i8 + 1)) l8 0 cl (z8 + 1))
              exact her _ _ _ _ _ _ _ _ _ _ _ _ (by rw [p_oneO, if_pos (by omega)]; unfold p_two; rw [e4]; show (if _ then _ else _) = _; rw [if_pos (by omega), e8]; show p_tim _ _ _ _ _ _ _ _ = _; unfold p_tim; rw [if_pos (by omega), if_neg (by omega)])
          · refine br_t (show (-1 : Int) = (-1) by decide) ?_
            refine And.intro (Or.inr rfl) ?_
            show Q (some (vi 1)) (q_m m (cw_up co8 z8 0) (cw_up hd c 0) (cw_up (cw_up fi c (-1)) c sz) (cw_up (cw_up se c (-1)) c (z4 + 1)) (cw_up te c (-1)) (cw_up re c 1) fa (x_P m i8) (x_E m i8) l8 0 cl (z8 + 1))
            exact hok _ _ 0 D4 D8 1 _ _ _ _ _ _ _ (by rw [p_oneO, if_pos (by omega)]; unfold p_two; rw [e4]; show (if _ then _ else _) = _; rw [if_pos (by omega), e8]; show p_tim _ _ _ _ _ _ _ _ = _; unfold p_tim; rw [if_neg (by omega)]) (by omega) (by omega) (by omega) (by omega) (e_gw (e_gt (e_ge G4 (i0 := i) (by omega)) (e_ge G8 (i0 := i4) (by omega))) (by omega)) ⟨⟨e_rwu, e_rwu2, e_rwu2, e_rwu, e_rwu⟩, cw_up_eq, cw_up_eq, cw_up_eq, by rw [cw_up_eq]; exact e_pts (e_pe hz0 (by omega) G41 T4) (by omega) (fun j hj => by rw [cw_up_ne (by omega), G8.2.2.1 j hj]), by rw [cw_up_eq]; exact e_pe (by omega) (by omega) G81 T8⟩
        · refine br_t (show (0 : Int) = 0 by decide) ?_
          refine And.intro (Or.inl rfl) ?_
          show Q (some (vi 0)) (q_m m co8 (cw_up hd c 0) (cw_up (cw_up fi c (-1)) c sz) (cw_up (cw_up se c (-1)) c (z4 + 1)) (cw_up te c (-1)) (cw_up re c 1) (x_P m r8) s8 q8 a8 p8 cl z8)
          exact her r8 _ _ _ _ _ _ _ _ _ _ _ (by rw [p_oneO, if_pos (by omega)]; unfold p_two; rw [e4]; show (if _ then _ else _) = _; rw [if_pos (by omega), e8])
      · refine br_f (show ¬ ((-1 : Int) ≠ (-1)) by decide) ?_
        show cw_C _ _ [vr x_reader_] (q_m m (cw_up co4 z4 0) (cw_up hd c 0) (cw_up (cw_up fi c (-1)) c sz) (cw_up se c (-1)) (cw_up te c (-1)) (cw_up re c 1) fa (x_P m i4) (x_E m i4) l4 0 cl (z4 + 1)) _
        refine Re_fail hm0 ⟨(q_m_ok hm0), ?_⟩
        refine And.intro (Or.inl rfl) ?_
        show Q (some (vi 0)) (q_m m (cw_up co4 z4 0) (cw_up hd c 0) (cw_up (cw_up fi c (-1)) c sz) (cw_up se c (-1)) (cw_up te c (-1)) (cw_up re c 1) (x_P m i4) (x_P m i4) (x_E m i4) l4 0 cl (z4 + 1))
        exact her _ _ _ _ _ _ _ _ _ _ _ _ (by rw [p_oneO, if_pos (by omega)]; unfold p_two; rw [e4]; show (if _ then _ else _) = _; rw [if_neg (by omega)])
    · refine br_t (show (0 : Int) = 0 by decide) ?_
      refine And.intro (Or.inl rfl) ?_
      show Q (some (vi 0)) (q_m m co4 (cw_up hd c 0) (cw_up (cw_up fi c (-1)) c sz) (cw_up se c (-1)) (cw_up te c (-1)) (cw_up re c 1) (x_P m r4) s4 q4 a4 p4 cl z4)
      exact her r4 _ _ _ _ _ _ _ _ _ _ _ (by rw [p_oneO, if_pos (by omega)]; unfold p_two; rw [e4])
  · refine br_t (show (1 : Int) ≠ (-1) by decide) ?_
    show cw_C _ _ [vr x_reader_] (q_m m co hd fi se te re fa (x_P m i) (x_E m i) l 0 cl sz) _
    refine Rt_advance hm0 hX (by omega) ⟨(q_m_ok hm0), ?_⟩
    show cw_C _ _ [vr x_reader_, vi c, vi 1] (q_m m co hd fi se te re fa (x_P m (i + 1)) (x_E m (i + 1)) l 0 cl sz) _
    refine Re_begin hm0 (by omega) ⟨(q_m_ok hm0), ?_⟩
    refine br_f (show ¬ ((1 : Int) = 3) by decide) ?_
    refine And.intro (show 0 ≤ c ∧ c < 12 by omega) ?_
    have hm16 : la_ok (cw_put (q_m m co (cw_up hd c 1) (cw_up fi c (-1)) (cw_up se c (-1)) (cw_up te c (-1)) (cw_up re c 1) fa (x_P m (i + 1)) (x_E m (i + 1)) l 0 cl sz) x_reader_text_first_ c sz) := la_put (q_m_ok hm0) (by decide) (Or.inr (by decide))
    show cw_C _ _ [vr x_reader_, vi 0] (cw_put (q_m m co (cw_up hd c 1) (cw_up fi c (-1)) (cw_up se c (-1)) (cw_up te c (-1)) (cw_up re c 1) fa (x_P m (i + 1)) (x_E m (i + 1)) l 0 cl sz) x_reader_text_first_ c sz) _
    rw [q_m_pfi]
    have hm17 : la_ok (q_m m co (cw_up hd c 1) (cw_up (cw_up fi c (-1)) c sz) (cw_up se c (-1)) (cw_up te c (-1)) (cw_up re c 1) fa (x_P m (i + 1)) (x_E m (i + 1)) l 0 cl sz) := q_m_ok hm0
    refine (Re_S hm0 hX hlaw 2100).2.2.2.1 _ 0 (i + 1) l p_z co sz (cw_up hd c 1) (cw_up (cw_up fi c (-1)) c sz) (cw_up se c (-1)) (cw_up te c (-1)) (cw_up re c 1) fa cl _ (by omega) (by omega) (by omega) (by omega) (by omega) (by omega) (by omega) (by omega) he0 (by omega) (by omega) (fun (i18 l18 : Int) (D18 : p_D) (co18 : Int → Int) (z18 : Int) (e18 : p_s (x_c m) (x_v m) true 2100 3 0 (i + 1) l p_z = .ok (i18, l18, D18)) (G18 : e_g co sz co18 z18 (i + 1) i18) (T18 : e_sg co18 sz z18 l D18) => ⟨(q_m_ok hm0), ?_⟩) (fun (r18 : Int) (co18 : Int → Int) (s18 q18 a18 p18 z18 : Int) (e18 : p_s (x_c m) (x_v m) true 2100 3 0 (i + 1) l p_z = .error r18) => ⟨(q_m_ok hm0), ?_⟩)
    · have N18 := p_Nok ((p_sN (c := x_c m) (v := x_v m) (o := true) hz 2100 (dp := 0) (i := i + 1) (l := l) (acc := p_z) (by omega) (by omega) (by omega) (by omega)).2.2.2.1 (by omega)) e18
      have S18 := N18.2.2.2.2 rfl
      have G181 := G18.1
      have G182 := G18.2.1
      have L18 : x_c m i18 ≠ 0 → i18 < tk := ltn _ (by omega) (by omega)
      refine br_f (show ¬ ((1 : Int) = 0) by decide) ?_
      show cw_C _ _ [vr x_reader_] (q_m m co18 (cw_up hd c 1) (cw_up (cw_up fi c (-1)) c sz) (cw_up se c (-1)) (cw_up te c (-1)) (cw_up re c 1) fa (x_P m i18) (x_E m i18) l18 0 cl z18) _
      refine Re_finish hm0 (by omega) ⟨(q_m_ok hm0), ?_⟩
      refine br_t (show (1 : Int) ≠ 0 by decide) ?_
      refine br_f (show ¬ ((1 : Int) = 0) by decide) ?_
      refine br_f (show ¬ ((1 : Int) ≠ 1) by decide) ?_
      refine br_t (show (1 : Int) ≠ 0 by decide) ?_
      show cw_C _ _ [vr x_reader_, vr 8388620] (q_m m (cw_up co18 z18 0) (cw_up hd c 1) (cw_up (cw_up fi c (-1)) c sz) (cw_up se c (-1)) (cw_up te c (-1)) (cw_up re c 1) fa (x_P m i18) (x_E m i18) l18 0 cl (z18 + 1)) _
      refine Rt_word4 hm0 hX (fun (a19 : x_c m i18 = 24) => ⟨(q_m_ok hm0), ?_⟩) (fun (a19 : ¬ (x_c m i18 = 24)) => ⟨(q_m_ok hm0), ?_⟩)
      · refine br_t (show (0 : Int) ≠ (-1) by decide) ?_
        show cw_C _ _ [vr x_reader_] (q_m m (cw_up co18 z18 0) (cw_up hd c 1) (cw_up (cw_up fi c (-1)) c sz) (cw_up se c (-1)) (cw_up te c (-1)) (cw_up re c 1) fa (x_P m i18) (x_E m i18) l18 0 cl (z18 + 1)) _
        refine Rt_advance hm0 hX (by omega) ⟨(q_m_ok hm0), ?_⟩
        refine And.intro (show 0 ≤ c ∧ c < 12 by omega) ?_
        have hm20 : la_ok (cw_put (q_m m (cw_up co18 z18 0) (cw_up hd c 1) (cw_up (cw_up fi c (-1)) c sz) (cw_up se c (-1)) (cw_up te c (-1)) (cw_up re c 1) fa (x_P m (i18 + 1)) (x_E m (i18 + 1)) l18 0 cl (z18 + 1)) x_reader_text_second_ c (z18 + 1)) := la_put (q_m_ok hm0) (by decide) (Or.inr (by decide))
        show cw_C _ _ [vr x_reader_, vi 0] (cw_put (q_m m (cw_up co18 z18 0) (cw_up hd c 1) (cw_up (cw_up fi c (-1)) c sz) (cw_up se c (-1)) (cw_up te c (-1)) (cw_up re c 1) fa (x_P m (i18 + 1)) (x_E m (i18 + 1)) l18 0 cl (z18 + 1)) x_reader_text_second_ c (z18 + 1)) _
        rw [q_m_pse]
        have hm21 : la_ok (q_m m (cw_up co18 z18 0) (cw_up hd c 1) (cw_up (cw_up fi c (-1)) c sz) (cw_up (cw_up se c (-1)) c (z18 + 1)) (cw_up te c (-1)) (cw_up re c 1) fa (x_P m (i18 + 1)) (x_E m (i18 + 1)) l18 0 cl (z18 + 1)) := q_m_ok hm0
        refine (Re_S hm0 hX hlaw 2100).2.2.2.1 _ 0 (i18 + 1) l18 p_z (cw_up co18 z18 0) (z18 + 1) (cw_up hd c 1) (cw_up (cw_up fi c (-1)) c sz) (cw_up (cw_up se c (-1)) c (z18 + 1)) (cw_up te c (-1)) (cw_up re c 1) fa cl _ (by omega) (by omega) (by omega) (by omega) (by omega) (by omega) (by omega) (by omega) (e_okup G18.2.2.2 (by omega)) (by omega) (by omega) (fun (i22 l22 : Int) (D22 : p_D) (co22 : Int → Int) (z22 : Int) (e22 : p_s (x_c m) (x_v m) true 2100 3 0 (i18 + 1) l18 p_z = .ok (i22, l22, D22)) (G22 : e_g (cw_up co18 z18 0) (z18 + 1) co22 z22 (i18 + 1) i22) (T22 : e_sg co22 (z18 + 1) z22 l18 D22) => ⟨(q_m_ok hm0), ?_⟩) (fun (r22 : Int) (co22 : Int → Int) (s22 q22 a22 p22 z22 : Int) (e22 : p_s (x_c m) (x_v m) true 2100 3 0 (i18 + 1) l18 p_z = .error r22) => ⟨(q_m_ok hm0), ?_⟩)
        · have N22 := p_Nok ((p_sN (c := x_c m) (v := x_v m) (o := true) hz 2100 (dp := 0) (i := i18 + 1) (l := l18) (acc := p_z) (by omega) (by omega) (by omega) (by omega)).2.2.2.1 (by omega)) e22
          have S22 := N22.2.2.2.2 rfl
          have G221 := G22.1
          have G222 := G22.2.1
          have L22 : x_c m i22 ≠ 0 → i22 < tk := ltn _ (by omega) (by omega)
          refine br_f (show ¬ ((1 : Int) = 0) by decide) ?_
          show cw_C _ _ [vr x_reader_] (q_m m co22 (cw_up hd c 1) (cw_up (cw_up fi c (-1)) c sz) (cw_up (cw_up se c (-1)) c (z18 + 1)) (cw_up te c (-1)) (cw_up re c 1) fa (x_P m i22) (x_E m i22) l22 0 cl z22) _
          refine Re_finish hm0 (by omega) ⟨(q_m_ok hm0), ?_⟩
          refine br_t (show (1 : Int) ≠ 0 by decide) ?_
          show cw_C _ _ [vr x_reader_, vr 9437196] (q_m m (cw_up co22 z22 0) (cw_up hd c 1) (cw_up (cw_up fi c (-1)) c sz) (cw_up (cw_up se c (-1)) c (z18 + 1)) (cw_up te c (-1)) (cw_up re c 1) fa (x_P m i22) (x_E m i22) l22 0 cl (z22 + 1)) _
          refine Rt_word5 hm0 hX (fun (a23 : x_c m i22 = 13) => ⟨(q_m_ok hm0), ?_⟩) (fun (a23 : ¬ (x_c m i22 = 13)) => ⟨(q_m_ok hm0), ?_⟩)
          · refine br_f (show ¬ ((0 : Int) = (-1)) by decide) ?_
            show cw_C _ _ [vr x_reader_] (q_m m (cw_up co22 z22 0) (cw_up hd c 1) (cw_up (cw_up fi c (-1)) c sz) (cw_up (cw_up se c (-1)) c (z18 + 1)) (cw_up te c (-1)) (cw_up re c 1) fa (x_P m i22) (x_E m i22) l22 0 cl (z22 + 1)) _
            refine Rt_advance hm0 hX (by omega) ⟨(q_m_ok hm0), ?_⟩
            show cw_C _ _ [vr x_reader_] (q_m m (cw_up co22 z22 0) (cw_up hd c 1) (cw_up (cw_up fi c (-1)) c sz) (cw_up (cw_up se c (-1)) c (z18 + 1)) (cw_up te c (-1)) (cw_up re c 1) fa (x_P m (i22 + 1)) (x_E m (i22 + 1)) l22 0 cl (z22 + 1)) _
            refine Rt_number hm0 hX (fun (a24 : x_c m (i22 + 1) = 50) (a25 : 0 ≤ x_v m (i22 + 1)) => ⟨(q_m_ok hm0), ?_⟩) (fun (a24 : x_c m (i22 + 1) ≠ 50) => ⟨(q_m_ok hm0), ?_⟩)
            · have Xa24 : i22 + 1 < tk := ltn _ (by omega) (by omega) (by omega)
              refine And.intro (fun (c26 : min 10000 (x_v m (i22 + 1)) < 1) => ?_) (fun (c26 : ¬ (min 10000 (x_v m (i22 + 1)) < 1)) => ?_)
              · show cw_C _ _ [vr x_reader_] (q_m m (cw_up co22 z22 0) (cw_up hd c 1) (cw_up (cw_up fi c (-1)) c sz) (cw_up (cw_up se c (-1)) c (z18 + 1)) (cw_up te c (-1)) (cw_up re c 1) fa (x_P m (i22 + 1)) (x_E m (i22 + 1)) l22 0 cl (z22 + 1)) _
                refine Re_fail hm0 ⟨(q_m_ok hm0), ?_⟩
                refine And.intro (Or.inl rfl) ?_
                show Q (some (vi 0)) (q_m m (cw_up co22 z22 0) (cw_up hd c 1) (cw_up (cw_up fi c (-1)) c sz) (cw_up (cw_up se c (-1)) c (z18 + 1)) (cw_up te c (-1)) (cw_up re c 1) (x_P m (i22 + 1)) (x_P m (i22 + 1)) (x_E m (i22 + 1)) l22 0 cl (z22 + 1))
                exact her _ _ _ _ _ _ _ _ _ _ _ _ (by rw [p_oneO, if_neg (by omega), if_pos (by omega)]; unfold p_two; rw [e18]; show (if _ then _ else _) = _; rw [if_pos (by omega), e22]; show p_tim _ _ _ _ _ _ _ _ = _; unfold p_tim; rw [if_pos (by omega), if_neg (by omega)])
              · refine And.intro (fun (c27 : min 10000 (x_v m (i22 + 1)) ≤ 20) => ?_) (fun (c27 : ¬ (min 10000 (x_v m (i22 + 1)) ≤ 20)) => ?_)
                · show cw_C _ _ [vr x_reader_] (q_m m (cw_up co22 z22 0) (cw_up hd c 1) (cw_up (cw_up fi c (-1)) c sz) (cw_up (cw_up se c (-1)) c (z18 + 1)) (cw_up te c (-1)) (cw_up re c 1) fa (x_P m (i22 + 1)) (x_E m (i22 + 1)) l22 0 cl (z22 + 1)) _
                  refine Rt_advance hm0 hX (by omega) ⟨(q_m_ok hm0), ?_⟩
                  refine And.intro (show 0 ≤ c ∧ c < 12 by omega) ?_
                  have hm28 : la_ok (cw_put (q_m m (cw_up co22 z22 0) (cw_up hd c 1) (cw_up (cw_up fi c (-1)) c sz) (cw_up (cw_up se c (-1)) c (z18 + 1)) (cw_up te c (-1)) (cw_up re c 1) fa (x_P m (i22 + 1 + 1)) (x_E m (i22 + 1 + 1)) l22 0 cl (z22 + 1)) x_reader_text_repeats_ c (min 10000 (x_v m (i22 + 1)))) := la_put (q_m_ok hm0) (by decide) (Or.inr (by decide))
                  refine And.intro (Or.inr rfl) ?_
                  show Q (some (vi 1)) (cw_put (q_m m (cw_up co22 z22 0) (cw_up hd c 1) (cw_up (cw_up fi c (-1)) c sz) (cw_up (cw_up se c (-1)) c (z18 + 1)) (cw_up te c (-1)) (cw_up re c 1) fa (x_P m (i22 + 1 + 1)) (x_E m (i22 + 1 + 1)) l22 0 cl (z22 + 1)) x_reader_text_repeats_ c (min 10000 (x_v m (i22 + 1))))
                  rw [q_m_pre]
                  have hm29 : la_ok (q_m m (cw_up co22 z22 0) (cw_up hd c 1) (cw_up (cw_up fi c (-1)) c sz) (cw_up (cw_up se c (-1)) c (z18 + 1)) (cw_up te c (-1)) (cw_up (cw_up re c 1) c (min 10000 (x_v m (i22 + 1)))) fa (x_P m (i22 + 1 + 1)) (x_E m (i22 + 1 + 1)) l22 0 cl (z22 + 1)) := q_m_ok hm0
                  rw [show i22 + 1 + 1 = i22 + 2 by omega]
                  exact hok _ _ 1 D18 D22 (x_v m (i22 + 1)) _ _ _ _ _ _ _ (by rw [p_oneO, if_neg (by omega), if_pos (by omega)]; unfold p_two; rw [e18]; show (if _ then _ else _) = _; rw [if_pos (by omega), e22]; show p_tim _ _ _ _ _ _ _ _ = _; unfold p_tim; rw [if_pos (by omega), if_pos (by omega)]) (by omega) (by omega) (by omega) (by omega) (e_gw (e_gt (e_ge G18 (i0 := i) (by omega)) (e_ge G22 (i0 := i18) (by omega))) (by omega)) ⟨⟨e_rwu, e_rwu2, e_rwu2, e_rwu, e_rwu2⟩, cw_up_eq, by rw [cw_up_eq]; omega, cw_up_eq, by rw [cw_up_eq]; exact e_pts (e_pe hz0 (by omega) G181 T18) (by omega) (fun j hj => by rw [cw_up_ne (by omega), G22.2.2.1 j hj]), by rw [cw_up_eq]; exact e_pe (by omega) (by omega) G221 T22⟩
                · show cw_C _ _ [vr x_reader_] (q_m m (cw_up co22 z22 0) (cw_up hd c 1) (cw_up (cw_up fi c (-1)) c sz) (cw_up (cw_up se c (-1)) c (z18 + 1)) (cw_up te c (-1)) (cw_up re c 1) fa (x_P m (i22 + 1)) (x_E m (i22 + 1)) l22 0 cl (z22 + 1)) _
                  refine Re_fail hm0 ⟨(q_m_ok hm0), ?_⟩
                  refine And.intro (Or.inl rfl) ?_
                  show Q (some (vi 0)) (q_m m (cw_up co22 z22 0) (cw_up hd c 1) (cw_up (cw_up fi c (-1)) c sz) (cw_up (cw_up se c (-1)) c (z18 + 1)) (cw_up te c (-1)) (cw_up re c 1) (x_P m (i22 + 1)) (x_P m (i22 + 1)) (x_E m (i22 + 1)) l22 0 cl (z22 + 1))
                  exact her _ _ _ _ _ _ _ _ _ _ _ _ (by rw [p_oneO, if_neg (by omega), if_pos (by omega)]; unfold p_two; rw [e18]; show (if _ then _ else _) = _; rw [if_pos (by omega), e22]; show p_tim _ _ _ _ _ _ _ _ = _; unfold p_tim; rw [if_pos (by omega), if_neg (by omega)])
            · refine br_t (show (-1 : Int) < 1 by decide) ?_
              show cw_C _ _ [vr x_reader_] (q_m m (cw_up co22 z22 0) (cw_up hd c 1) (cw_up (cw_up fi c (-1)) c sz) (cw_up (cw_up se c (-1)) c (z18 + 1)) (cw_up te c (-1)) (cw_up re c 1) fa (x_P m (i22 + 1)) (x_E m (i22 + 1)) l22 0 cl (z22 + 1)) _
              refine Re_fail hm0 ⟨(q_m_ok hm0), ?_⟩
              refine And.intro (Or.inl rfl) ?_
              show Q (some (vi 0)) (q_m m (cw_up co22 z22 0) (cw_up hd c 1) (cw_up (cw_up fi c (-1)) c sz) (cw_up (cw_up se c (-1)) c (z18 + 1)) (cw_up te c (-1)) (cw_up re c 1) (x_P m (i22 + 1)) (x_P m (i22 + 1)) (x_E m (i22 + 1)) l22 0 cl (z22 + 1))
              exact her _ _ _ _ _ _ _ _ _ _ _ _ (by rw [p_oneO, if_neg (by omega), if_pos (by omega)]; unfold p_two; rw [e18]; show (if _ then _ else _) = _; rw [if_pos (by omega), e22]; show p_tim _ _ _ _ _ _ _ _ = _; unfold p_tim; rw [if_pos (by omega), if_neg (by omega)])
          · refine br_t (show (-1 : Int) = (-1) by decide) ?_
            refine And.intro (Or.inr rfl) ?_
            show Q (some (vi 1)) (q_m m (cw_up co22 z22 0) (cw_up hd c 1) (cw_up (cw_up fi c (-1)) c sz) (cw_up (cw_up se c (-1)) c (z18 + 1)) (cw_up te c (-1)) (cw_up re c 1) fa (x_P m i22) (x_E m i22) l22 0 cl (z22 + 1))
            exact hok _ _ 1 D18 D22 1 _ _ _ _ _ _ _ (by rw [p_oneO, if_neg (by omega), if_pos (by omega)]; unfold p_two; rw [e18]; show (if _ then _ else _) = _; rw [if_pos (by omega), e22]; show p_tim _ _ _ _ _ _ _ _ = _; unfold p_tim; rw [if_neg (by omega)]) (by omega) (by omega) (by omega) (by omega) (e_gw (e_gt (e_ge G18 (i0 := i) (by omega)) (e_ge G22 (i0 := i18) (by omega))) (by omega)) ⟨⟨e_rwu, e_rwu2, e_rwu2, e_rwu, e_rwu⟩, cw_up_eq, cw_up_eq, cw_up_eq, by rw [cw_up_eq]; exact e_pts (e_pe hz0 (by omega) G181 T18) (by omega) (fun j hj => by rw [cw_up_ne (by omega), G22.2.2.1 j hj]), by rw [cw_up_eq]; exact e_pe (by omega) (by omega) G221 T22⟩
        · refine br_t (show (0 : Int) = 0 by decide) ?_
          refine And.intro (Or.inl rfl) ?_
          show Q (some (vi 0)) (q_m m co22 (cw_up hd c 1) (cw_up (cw_up fi c (-1)) c sz) (cw_up (cw_up se c (-1)) c (z18 + 1)) (cw_up te c (-1)) (cw_up re c 1) (x_P m r22) s22 q22 a22 p22 cl z22)
          exact her r22 _ _ _ _ _ _ _ _ _ _ _ (by rw [p_oneO, if_neg (by omega), if_pos (by omega)]; unfold p_two; rw [e18]; show (if _ then _ else _) = _; rw [if_pos (by omega), e22])
      · refine br_f (show ¬ ((-1 : Int) ≠ (-1)) by decide) ?_
        show cw_C _ _ [vr x_reader_] (q_m m (cw_up co18 z18 0) (cw_up hd c 1) (cw_up (cw_up fi c (-1)) c sz) (cw_up se c (-1)) (cw_up te c (-1)) (cw_up re c 1) fa (x_P m i18) (x_E m i18) l18 0 cl (z18 + 1)) _
        refine Re_fail hm0 ⟨(q_m_ok hm0), ?_⟩
        refine And.intro (Or.inl rfl) ?_
        show Q (some (vi 0)) (q_m m (cw_up co18 z18 0) (cw_up hd c 1) (cw_up (cw_up fi c (-1)) c sz) (cw_up se c (-1)) (cw_up te c (-1)) (cw_up re c 1) (x_P m i18) (x_P m i18) (x_E m i18) l18 0 cl (z18 + 1))
        exact her _ _ _ _ _ _ _ _ _ _ _ _ (by rw [p_oneO, if_neg (by omega), if_pos (by omega)]; unfold p_two; rw [e18]; show (if _ then _ else _) = _; rw [if_neg (by omega)])
    · refine br_t (show (0 : Int) = 0 by decide) ?_
      refine And.intro (Or.inl rfl) ?_
      show Q (some (vi 0)) (q_m m co18 (cw_up hd c 1) (cw_up (cw_up fi c (-1)) c sz) (cw_up se c (-1)) (cw_up te c (-1)) (cw_up re c 1) (x_P m r18) s18 q18 a18 p18 cl z18)
      exact her r18 _ _ _ _ _ _ _ _ _ _ _ (by rw [p_oneO, if_neg (by omega), if_pos (by omega)]; unfold p_two; rw [e18])
  · refine br_t (show (2 : Int) ≠ (-1) by decide) ?_
    show cw_C _ _ [vr x_reader_] (q_m m co hd fi se te re fa (x_P m i) (x_E m i) l 0 cl sz) _
    refine Rt_advance hm0 hX (by omega) ⟨(q_m_ok hm0), ?_⟩
    show cw_C _ _ [vr x_reader_, vi c, vi 2] (q_m m co hd fi se te re fa (x_P m (i + 1)) (x_E m (i + 1)) l 0 cl sz) _
    refine Re_begin hm0 (by omega) ⟨(q_m_ok hm0), ?_⟩
    refine br_f (show ¬ ((2 : Int) = 3) by decide) ?_
    refine And.intro (show 0 ≤ c ∧ c < 12 by omega) ?_
    have hm30 : la_ok (cw_put (q_m m co (cw_up hd c 2) (cw_up fi c (-1)) (cw_up se c (-1)) (cw_up te c (-1)) (cw_up re c 1) fa (x_P m (i + 1)) (x_E m (i + 1)) l 0 cl sz) x_reader_text_first_ c sz) := la_put (q_m_ok hm0) (by decide) (Or.inr (by decide))
    show cw_C _ _ [vr x_reader_, vi 0] (cw_put (q_m m co (cw_up hd c 2) (cw_up fi c (-1)) (cw_up se c (-1)) (cw_up te c (-1)) (cw_up re c 1) fa (x_P m (i + 1)) (x_E m (i + 1)) l 0 cl sz) x_reader_text_first_ c sz) _
    rw [q_m_pfi]
    have hm31 : la_ok (q_m m co (cw_up hd c 2) (cw_up (cw_up fi c (-1)) c sz) (cw_up se c (-1)) (cw_up te c (-1)) (cw_up re c 1) fa (x_P m (i + 1)) (x_E m (i + 1)) l 0 cl sz) := q_m_ok hm0
    refine (Re_S hm0 hX hlaw 2100).2.2.2.1 _ 0 (i + 1) l p_z co sz (cw_up hd c 2) (cw_up (cw_up fi c (-1)) c sz) (cw_up se c (-1)) (cw_up te c (-1)) (cw_up re c 1) fa cl _ (by omega) (by omega) (by omega) (by omega) (by omega) (by omega) (by omega) (by omega) he0 (by omega) (by omega) (fun (i32 l32 : Int) (D32 : p_D) (co32 : Int → Int) (z32 : Int) (e32 : p_s (x_c m) (x_v m) true 2100 3 0 (i + 1) l p_z = .ok (i32, l32, D32)) (G32 : e_g co sz co32 z32 (i + 1) i32) (T32 : e_sg co32 sz z32 l D32) => ⟨(q_m_ok hm0), ?_⟩) (fun (r32 : Int) (co32 : Int → Int) (s32 q32 a32 p32 z32 : Int) (e32 : p_s (x_c m) (x_v m) true 2100 3 0 (i + 1) l p_z = .error r32) => ⟨(q_m_ok hm0), ?_⟩)
    · have N32 := p_Nok ((p_sN (c := x_c m) (v := x_v m) (o := true) hz 2100 (dp := 0) (i := i + 1) (l := l) (acc := p_z) (by omega) (by omega) (by omega) (by omega)).2.2.2.1 (by omega)) e32
      have S32 := N32.2.2.2.2 rfl
      have G321 := G32.1
      have G322 := G32.2.1
      have L32 : x_c m i32 ≠ 0 → i32 < tk := ltn _ (by omega) (by omega)
      refine br_f (show ¬ ((1 : Int) = 0) by decide) ?_
      show cw_C _ _ [vr x_reader_] (q_m m co32 (cw_up hd c 2) (cw_up (cw_up fi c (-1)) c sz) (cw_up se c (-1)) (cw_up te c (-1)) (cw_up re c 1) fa (x_P m i32) (x_E m i32) l32 0 cl z32) _
      refine Re_finish hm0 (by omega) ⟨(q_m_ok hm0), ?_⟩
      refine br_t (show (1 : Int) ≠ 0 by decide) ?_
      refine br_f (show ¬ ((2 : Int) = 0) by decide) ?_
      refine br_t (show (2 : Int) ≠ 1 by decide) ?_
      show cw_C _ _ [vr x_reader_, vr 9437196] (q_m m (cw_up co32 z32 0) (cw_up hd c 2) (cw_up (cw_up fi c (-1)) c sz) (cw_up se c (-1)) (cw_up te c (-1)) (cw_up re c 1) fa (x_P m i32) (x_E m i32) l32 0 cl (z32 + 1)) _
      refine Rt_word5 hm0 hX (fun (a33 : x_c m i32 = 13) => ⟨(q_m_ok hm0), ?_⟩) (fun (a33 : ¬ (x_c m i32 = 13)) => ⟨(q_m_ok hm0), ?_⟩)
      · refine br_f (show ¬ ((0 : Int) = (-1)) by decide) ?_
        show cw_C _ _ [vr x_reader_] (q_m m (cw_up co32 z32 0) (cw_up hd c 2) (cw_up (cw_up fi c (-1)) c sz) (cw_up se c (-1)) (cw_up te c (-1)) (cw_up re c 1) fa (x_P m i32) (x_E m i32) l32 0 cl (z32 + 1)) _
        refine Rt_advance hm0 hX (by omega) ⟨(q_m_ok hm0), ?_⟩
        show cw_C _ _ [vr x_reader_] (q_m m (cw_up co32 z32 0) (cw_up hd c 2) (cw_up (cw_up fi c (-1)) c sz) (cw_up se c (-1)) (cw_up te c (-1)) (cw_up re c 1) fa (x_P m (i32 + 1)) (x_E m (i32 + 1)) l32 0 cl (z32 + 1)) _
        refine Rt_number hm0 hX (fun (a34 : x_c m (i32 + 1) = 50) (a35 : 0 ≤ x_v m (i32 + 1)) => ⟨(q_m_ok hm0), ?_⟩) (fun (a34 : x_c m (i32 + 1) ≠ 50) => ⟨(q_m_ok hm0), ?_⟩)
        · have Xa34 : i32 + 1 < tk := ltn _ (by omega) (by omega) (by omega)
          refine And.intro (fun (c36 : min 10000 (x_v m (i32 + 1)) < 1) => ?_) (fun (c36 : ¬ (min 10000 (x_v m (i32 + 1)) < 1)) => ?_)
          · show cw_C _ _ [vr x_reader_] (q_m m (cw_up co32 z32 0) (cw_up hd c 2) (cw_up (cw_up fi c (-1)) c sz) (cw_up se c (-1)) (cw_up te c (-1)) (cw_up re c 1) fa (x_P m (i32 + 1)) (x_E m (i32 + 1)) l32 0 cl (z32 + 1)) _
            refine Re_fail hm0 ⟨(q_m_ok hm0), ?_⟩
            refine And.intro (Or.inl rfl) ?_
            show Q (some (vi 0)) (q_m m (cw_up co32 z32 0) (cw_up hd c 2) (cw_up (cw_up fi c (-1)) c sz) (cw_up se c (-1)) (cw_up te c (-1)) (cw_up re c 1) (x_P m (i32 + 1)) (x_P m (i32 + 1)) (x_E m (i32 + 1)) l32 0 cl (z32 + 1))
            exact her _ _ _ _ _ _ _ _ _ _ _ _ (by rw [p_oneO, if_neg (by omega), if_neg (by omega), if_pos (by omega), e32]; show p_tim _ _ _ _ _ _ _ _ = _; unfold p_tim; rw [if_pos (by omega), if_neg (by omega)])
          · refine And.intro (fun (c37 : min 10000 (x_v m (i32 + 1)) ≤ 20) => ?_) (fun (c37 : ¬ (min 10000 (x_v m (i32 + 1)) ≤ 20)) => ?_)
            · show cw_C _ _ [vr x_reader_] (q_m m (cw_up co32 z32 0) (cw_up hd c 2) (cw_up (cw_up fi c (-1)) c sz) (cw_up se c (-1)) (cw_up te c (-1)) (cw_up re c 1) fa (x_P m (i32 + 1)) (x_E m (i32 + 1)) l32 0 cl (z32 + 1)) _
              refine Rt_advance hm0 hX (by omega) ⟨(q_m_ok hm0), ?_⟩
              refine And.intro (show 0 ≤ c ∧ c < 12 by omega) ?_
              have hm38 : la_ok (cw_put (q_m m (cw_up co32 z32 0) (cw_up hd c 2) (cw_up (cw_up fi c (-1)) c sz) (cw_up se c (-1)) (cw_up te c (-1)) (cw_up re c 1) fa (x_P m (i32 + 1 + 1)) (x_E m (i32 + 1 + 1)) l32 0 cl (z32 + 1)) x_reader_text_repeats_ c (min 10000 (x_v m (i32 + 1)))) := la_put (q_m_ok hm0) (by decide) (Or.inr (by decide))
              refine And.intro (Or.inr rfl) ?_
              show Q (some (vi 1)) (cw_put (q_m m (cw_up co32 z32 0) (cw_up hd c 2) (cw_up (cw_up fi c (-1)) c sz) (cw_up se c (-1)) (cw_up te c (-1)) (cw_up re c 1) fa (x_P m (i32 + 1 + 1)) (x_E m (i32 + 1 + 1)) l32 0 cl (z32 + 1)) x_reader_text_repeats_ c (min 10000 (x_v m (i32 + 1))))
              rw [q_m_pre]
              have hm39 : la_ok (q_m m (cw_up co32 z32 0) (cw_up hd c 2) (cw_up (cw_up fi c (-1)) c sz) (cw_up se c (-1)) (cw_up te c (-1)) (cw_up (cw_up re c 1) c (min 10000 (x_v m (i32 + 1)))) fa (x_P m (i32 + 1 + 1)) (x_E m (i32 + 1 + 1)) l32 0 cl (z32 + 1)) := q_m_ok hm0
              rw [show i32 + 1 + 1 = i32 + 2 by omega]
              exact hok _ _ 2 D32 p_z (x_v m (i32 + 1)) _ _ _ _ _ _ _ (by rw [p_oneO, if_neg (by omega), if_neg (by omega), if_pos (by omega), e32]; show p_tim _ _ _ _ _ _ _ _ = _; unfold p_tim; rw [if_pos (by omega), if_pos (by omega)]) (by omega) (by omega) (by omega) (by omega) (e_gw (e_ge G32 (i0 := i) (by omega)) (by omega)) ⟨⟨e_rwu, e_rwu2, e_rwu, e_rwu, e_rwu2⟩, cw_up_eq, by rw [cw_up_eq]; omega, cw_up_eq, by rw [cw_up_eq]; exact e_pe hz0 (by omega) G321 T32, by rw [cw_up_eq]; exact e_ptn⟩
            · show cw_C _ _ [vr x_reader_] (q_m m (cw_up co32 z32 0) (cw_up hd c 2) (cw_up (cw_up fi c (-1)) c sz) (cw_up se c (-1)) (cw_up te c (-1)) (cw_up re c 1) fa (x_P m (i32 + 1)) (x_E m (i32 + 1)) l32 0 cl (z32 + 1)) _
              refine Re_fail hm0 ⟨(q_m_ok hm0), ?_⟩
              refine And.intro (Or.inl rfl) ?_
              show Q (some (vi 0)) (q_m m (cw_up co32 z32 0) (cw_up hd c 2) (cw_up (cw_up fi c (-1)) c sz) (cw_up se c (-1)) (cw_up te c (-1)) (cw_up re c 1) (x_P m (i32 + 1)) (x_P m (i32 + 1)) (x_E m (i32 + 1)) l32 0 cl (z32 + 1))
              exact her _ _ _ _ _ _ _ _ _ _ _ _ (by rw [p_oneO, if_neg (by omega), if_neg (by omega), if_pos (by omega), e32]; show p_tim _ _ _ _ _ _ _ _ = _; unfold p_tim; rw [if_pos (by omega), if_neg (by omega)])
        · refine br_t (show (-1 : Int) < 1 by decide) ?_
          show cw_C _ _ [vr x_reader_] (q_m m (cw_up co32 z32 0) (cw_up hd c 2) (cw_up (cw_up fi c (-1)) c sz) (cw_up se c (-1)) (cw_up te c (-1)) (cw_up re c 1) fa (x_P m (i32 + 1)) (x_E m (i32 + 1)) l32 0 cl (z32 + 1)) _
          refine Re_fail hm0 ⟨(q_m_ok hm0), ?_⟩
          refine And.intro (Or.inl rfl) ?_
          show Q (some (vi 0)) (q_m m (cw_up co32 z32 0) (cw_up hd c 2) (cw_up (cw_up fi c (-1)) c sz) (cw_up se c (-1)) (cw_up te c (-1)) (cw_up re c 1) (x_P m (i32 + 1)) (x_P m (i32 + 1)) (x_E m (i32 + 1)) l32 0 cl (z32 + 1))
          exact her _ _ _ _ _ _ _ _ _ _ _ _ (by rw [p_oneO, if_neg (by omega), if_neg (by omega), if_pos (by omega), e32]; show p_tim _ _ _ _ _ _ _ _ = _; unfold p_tim; rw [if_pos (by omega), if_neg (by omega)])
      · refine br_t (show (-1 : Int) = (-1) by decide) ?_
        refine And.intro (Or.inr rfl) ?_
        show Q (some (vi 1)) (q_m m (cw_up co32 z32 0) (cw_up hd c 2) (cw_up (cw_up fi c (-1)) c sz) (cw_up se c (-1)) (cw_up te c (-1)) (cw_up re c 1) fa (x_P m i32) (x_E m i32) l32 0 cl (z32 + 1))
        exact hok _ _ 2 D32 p_z 1 _ _ _ _ _ _ _ (by rw [p_oneO, if_neg (by omega), if_neg (by omega), if_pos (by omega), e32]; show p_tim _ _ _ _ _ _ _ _ = _; unfold p_tim; rw [if_neg (by omega)]) (by omega) (by omega) (by omega) (by omega) (e_gw (e_ge G32 (i0 := i) (by omega)) (by omega)) ⟨⟨e_rwu, e_rwu2, e_rwu, e_rwu, e_rwu⟩, cw_up_eq, cw_up_eq, cw_up_eq, by rw [cw_up_eq]; exact e_pe hz0 (by omega) G321 T32, by rw [cw_up_eq]; exact e_ptn⟩
    · refine br_t (show (0 : Int) = 0 by decide) ?_
      refine And.intro (Or.inl rfl) ?_
      show Q (some (vi 0)) (q_m m co32 (cw_up hd c 2) (cw_up (cw_up fi c (-1)) c sz) (cw_up se c (-1)) (cw_up te c (-1)) (cw_up re c 1) (x_P m r32) s32 q32 a32 p32 cl z32)
      exact her r32 _ _ _ _ _ _ _ _ _ _ _ (by rw [p_oneO, if_neg (by omega), if_neg (by omega), if_pos (by omega), e32])
  · refine br_t (show (3 : Int) ≠ (-1) by decide) ?_
    show cw_C _ _ [vr x_reader_] (q_m m co hd fi se te re fa (x_P m i) (x_E m i) l 0 cl sz) _
    refine Rt_advance hm0 hX (by omega) ⟨(q_m_ok hm0), ?_⟩
    show cw_C _ _ [vr x_reader_, vi c, vi 3] (q_m m co hd fi se te re fa (x_P m (i + 1)) (x_E m (i + 1)) l 0 cl sz) _
    refine Re_begin hm0 (by omega) ⟨(q_m_ok hm0), ?_⟩
    refine br_t (show (3 : Int) = 3 by decide) ?_
    refine br_f (show ¬ ((3 : Int) = 0) by decide) ?_
    refine br_t (show (3 : Int) ≠ 1 by decide) ?_
    show cw_C _ _ [vr x_reader_, vr 9437196] (q_m m co (cw_up hd c 3) (cw_up fi c (-1)) (cw_up se c (-1)) (cw_up te c (-1)) (cw_up re c 1) fa (x_P m (i + 1)) (x_E m (i + 1)) l 0 cl sz) _
    refine Rt_word5 hm0 hX (fun (a40 : x_c m (i + 1) = 13) => ⟨(q_m_ok hm0), ?_⟩) (fun (a40 : ¬ (x_c m (i + 1) = 13)) => ⟨(q_m_ok hm0), ?_⟩)
    · refine br_f (show ¬ ((0 : Int) = (-1)) by decide) ?_
      show cw_C _ _ [vr x_reader_] (q_m m co (cw_up hd c 3) (cw_up fi c (-1)) (cw_up se c (-1)) (cw_up te c (-1)) (cw_up re c 1) fa (x_P m (i + 1)) (x_E m (i + 1)) l 0 cl sz) _
      refine Rt_advance hm0 hX (by omega) ⟨(q_m_ok hm0), ?_⟩
      show cw_C _ _ [vr x_reader_] (q_m m co (cw_up hd c 3) (cw_up fi c (-1)) (cw_up se c (-1)) (cw_up te c (-1)) (cw_up re c 1) fa (x_P m (i + 1 + 1)) (x_E m (i + 1 + 1)) l 0 cl sz) _
      refine Rt_number hm0 hX (fun (a41 : x_c m (i + 1 + 1) = 50) (a42 : 0 ≤ x_v m (i + 1 + 1)) => ⟨(q_m_ok hm0), ?_⟩) (fun (a41 : x_c m (i + 1 + 1) ≠ 50) => ⟨(q_m_ok hm0), ?_⟩)
      · have Xa41 : i + 1 + 1 < tk := ltn _ (by omega) (by omega) (by omega)
        refine And.intro (fun (c43 : min 10000 (x_v m (i + 1 + 1)) < 1) => ?_) (fun (c43 : ¬ (min 10000 (x_v m (i + 1 + 1)) < 1)) => ?_)
        · show cw_C _ _ [vr x_reader_] (q_m m co (cw_up hd c 3) (cw_up fi c (-1)) (cw_up se c (-1)) (cw_up te c (-1)) (cw_up re c 1) fa (x_P m (i + 1 + 1)) (x_E m (i + 1 + 1)) l 0 cl sz) _
          refine Re_fail hm0 ⟨(q_m_ok hm0), ?_⟩
          refine And.intro (Or.inl rfl) ?_
          show Q (some (vi 0)) (q_m m co (cw_up hd c 3) (cw_up fi c (-1)) (cw_up se c (-1)) (cw_up te c (-1)) (cw_up re c 1) (x_P m (i + 1 + 1)) (x_P m (i + 1 + 1)) (x_E m (i + 1 + 1)) l 0 cl sz)
          exact her _ _ _ _ _ _ _ _ _ _ _ _ (by rw [p_oneO, if_neg (by omega), if_neg (by omega), if_neg (by omega), if_pos (by omega)]; unfold p_tim; rw [if_pos (by omega), if_neg (by omega)])
        · refine And.intro (fun (c44 : min 10000 (x_v m (i + 1 + 1)) ≤ 20) => ?_) (fun (c44 : ¬ (min 10000 (x_v m (i + 1 + 1)) ≤ 20)) => ?_)
          · show cw_C _ _ [vr x_reader_] (q_m m co (cw_up hd c 3) (cw_up fi c (-1)) (cw_up se c (-1)) (cw_up te c (-1)) (cw_up re c 1) fa (x_P m (i + 1 + 1)) (x_E m (i + 1 + 1)) l 0 cl sz) _
            refine Rt_advance hm0 hX (by omega) ⟨(q_m_ok hm0), ?_⟩
            refine And.intro (show 0 ≤ c ∧ c < 12 by omega) ?_
            have hm45 : la_ok (cw_put (q_m m co (cw_up hd c 3) (cw_up fi c (-1)) (cw_up se c (-1)) (cw_up te c (-1)) (cw_up re c 1) fa (x_P m (i + 1 + 1 + 1)) (x_E m (i + 1 + 1 + 1)) l 0 cl sz) x_reader_text_repeats_ c (min 10000 (x_v m (i + 1 + 1)))) := la_put (q_m_ok hm0) (by decide) (Or.inr (by decide))
            refine And.intro (Or.inr rfl) ?_
            show Q (some (vi 1)) (cw_put (q_m m co (cw_up hd c 3) (cw_up fi c (-1)) (cw_up se c (-1)) (cw_up te c (-1)) (cw_up re c 1) fa (x_P m (i + 1 + 1 + 1)) (x_E m (i + 1 + 1 + 1)) l 0 cl sz) x_reader_text_repeats_ c (min 10000 (x_v m (i + 1 + 1))))
            rw [q_m_pre]
            have hm46 : la_ok (q_m m co (cw_up hd c 3) (cw_up fi c (-1)) (cw_up se c (-1)) (cw_up te c (-1)) (cw_up (cw_up re c 1) c (min 10000 (x_v m (i + 1 + 1)))) fa (x_P m (i + 1 + 1 + 1)) (x_E m (i + 1 + 1 + 1)) l 0 cl sz) := q_m_ok hm0
            rw [show i + 1 + 1 + 1 = i + 1 + 2 by omega]
            exact hok _ _ 3 p_z p_z (x_v m (i + 1 + 1)) _ _ _ _ _ _ _ (by rw [p_oneO, if_neg (by omega), if_neg (by omega), if_neg (by omega), if_pos (by omega)]; unfold p_tim; rw [if_pos (by omega), if_pos (by omega)]) (by omega) (by omega) (by omega) (by omega) ⟨Int.le_refl _, by omega, fun _ _ => rfl, he0⟩ ⟨⟨e_rwu, e_rwu, e_rwu, e_rwu, e_rwu2⟩, cw_up_eq, by rw [cw_up_eq]; omega, cw_up_eq, by rw [cw_up_eq]; exact e_ptn, by rw [cw_up_eq]; exact e_ptn⟩
          · show cw_C _ _ [vr x_reader_] (q_m m co (cw_up hd c 3) (cw_up fi c (-1)) (cw_up se c (-1)) (cw_up te c (-1)) (cw_up re c 1) fa (x_P m (i + 1 + 1)) (x_E m (i + 1 + 1)) l 0 cl sz) _
            refine Re_fail hm0 ⟨(q_m_ok hm0), ?_⟩
            refine And.intro (Or.inl rfl) ?_
            show Q (some (vi 0)) (q_m m co (cw_up hd c 3) (cw_up fi c (-1)) (cw_up se c (-1)) (cw_up te c (-1)) (cw_up re c 1) (x_P m (i + 1 + 1)) (x_P m (i + 1 + 1)) (x_E m (i + 1 + 1)) l 0 cl sz)
            exact her _ _ _ _ _ _ _ _ _ _ _ _ (by rw [p_oneO, if_neg (by omega), if_neg (by omega), if_neg (by omega), if_pos (by omega)]; unfold p_tim; rw [if_pos (by omega), if_neg (by omega)])
      · refine br_t (show (-1 : Int) < 1 by decide) ?_
        show cw_C _ _ [vr x_reader_] (q_m m co (cw_up hd c 3) (cw_up fi c (-1)) (cw_up se c (-1)) (cw_up te c (-1)) (cw_up re c 1) fa (x_P m (i + 1 + 1)) (x_E m (i + 1 + 1)) l 0 cl sz) _
        refine Re_fail hm0 ⟨(q_m_ok hm0), ?_⟩
        refine And.intro (Or.inl rfl) ?_
        show Q (some (vi 0)) (q_m m co (cw_up hd c 3) (cw_up fi c (-1)) (cw_up se c (-1)) (cw_up te c (-1)) (cw_up re c 1) (x_P m (i + 1 + 1)) (x_P m (i + 1 + 1)) (x_E m (i + 1 + 1)) l 0 cl sz)
        exact her _ _ _ _ _ _ _ _ _ _ _ _ (by rw [p_oneO, if_neg (by omega), if_neg (by omega), if_neg (by omega), if_pos (by omega)]; unfold p_tim; rw [if_pos (by omega), if_neg (by omega)])
    · refine br_t (show (-1 : Int) = (-1) by decide) ?_
      refine And.intro (Or.inr rfl) ?_
      show Q (some (vi 1)) (q_m m co (cw_up hd c 3) (cw_up fi c (-1)) (cw_up se c (-1)) (cw_up te c (-1)) (cw_up re c 1) fa (x_P m (i + 1)) (x_E m (i + 1)) l 0 cl sz)
      exact hok _ _ 3 p_z p_z 1 _ _ _ _ _ _ _ (by rw [p_oneO, if_neg (by omega), if_neg (by omega), if_neg (by omega), if_pos (by omega)]; unfold p_tim; rw [if_neg (by omega)]) (by omega) (by omega) (by omega) (by omega) ⟨Int.le_refl _, by omega, fun _ _ => rfl, he0⟩ ⟨⟨e_rwu, e_rwu, e_rwu, e_rwu, e_rwu⟩, cw_up_eq, cw_up_eq, cw_up_eq, by rw [cw_up_eq]; exact e_ptn, by rw [cw_up_eq]; exact e_ptn⟩
  · refine br_f (show ¬ ((-1 : Int) ≠ (-1)) by decide) ?_
    show cw_C _ _ [vr x_reader_] (q_m m co hd fi se te re fa (x_P m i) (x_E m i) l 0 cl sz) _
    refine Re_fail hm0 ⟨(q_m_ok hm0), ?_⟩
    refine And.intro (Or.inl rfl) ?_
    show Q (some (vi 0)) (q_m m co hd fi se te re (x_P m i) (x_P m i) (x_E m i) l 0 cl sz)
    exact her _ _ _ _ _ _ _ _ _ _ _ _ (by rw [p_oneO, if_neg (by omega), if_neg (by omega), if_neg (by omega), if_neg (by omega)])
theorem Re_condition {d : Nat} {m : cw_M} {Q : Option cw_V → cw_M → Prop} {o : Bool} (hm0 : la_ok m) {tk : Int} (hX : X_h m tk) (hlaw : m x_reader_ 4 = if o = true then 0 else 1) {i l : Int} {co : Int → Int} {sz : Int} {hd fi se te re : Int → Int} {fa cl c : Int} (hc : 0 ≤ c ∧ c < 12) (h0 : 0 ≤ i) (h1 : i ≤ tk) (hl0 : 0 ≤ l) (hl1 : l ≤ 50) (hz0 : 0 ≤ sz) (hzi : sz ≤ i) (he0 : e_ok co sz) (hte : te c = -1) {h k : Int} {A B : p_D} (hok : ∀ i1 l1 T co1 te1 sz1, p_ift (x_c m) (x_v m) o h A B k i l = .ok (i1, l1, h, A, B, k, T) → i ≤ i1 → i1 ≤ tk → l ≤ l1 → l1 ≤ 50 → e_g co sz co1 sz1 i i1 → e_rw c te te1 → e_pt co1 sz1 (te1 c) T → Q (some (vi 1)) (q_m m co1 hd fi se te1 re fa (x_P m i1) (x_E m i1) l1 0 cl sz1)) (her : ∀ er co1 te1 st1 sp1 pa1 op1 sz1, p_ift (x_c m) (x_v m) o h A B k i l = .error er → Q (some (vi 0)) (q_m m co1 hd fi se te1 re (x_P m er) st1 sp1 pa1 op1 cl sz1)) : cw_C (d + 40) k_Re_condition [vr x_reader_, vi c] (q_m m co hd fi se te re fa (x_P m i) (x_E m i) l 0 cl sz) Q := by
  have hm : la_ok (q_m m co hd fi se te re fa (x_P m i) (x_E m i) l 0 cl sz) := q_m_ok hm0
  have hz : x_c m tk = 0 := k_Cz hX.2.2.2
  have tkn : 0 ≤ tk ∧ tk ≤ 400 := ⟨hX.2.2.2.1.1, by have := hX.2.2.2.1.2; have := hX.2.1; omega⟩
  have ltn : ∀ z, 0 ≤ z → z ≤ tk → x_c m z ≠ 0 → z < tk := fun z _ _ q => by
    by_cases e : z = tk
    · rw [e] at q; exact absurd hz q
    · omega
  have hlt : x_c m i ≠ 0 → i < tk := ltn i h0 h1
  have hi1 : x_c m i = 4 → i < tk := fun q => hlt (by omega)
  refine la_go_C hm 28 [] ?_
  show cw_C _ _ [vr x_reader_, vr 6291468] (q_m m co hd fi se te re fa (x_P m i) (x_E m i) l 0 cl sz) _
  refine Rt_word2 hm0 hX (fun (a1 : x_c m i = 4) => ⟨hm, ?_⟩) (fun (a1 : ¬ (x_c m i = 4)) => ⟨hm, ?_⟩)
  · refine br_t (show (0 : Int) ≠ (-1) by decide) ?_
    show cw_C _ _ [vr x_reader_] (q_m m co hd fi se te re fa (x_P m i) (x_E m i) l 0 cl sz) _
    refine Rt_advance hm0 hX (by omega) ⟨(q_m_ok hm0), ?_⟩
    refine And.intro (show 0 ≤ c ∧ c < 12 by omega) ?_
    have hm2 : la_ok (cw_put (q_m m co hd fi se te re fa (x_P m (i + 1)) (x_E m (i + 1)) l 0 cl sz) x_reader_text_test_ c sz) := la_put (q_m_ok hm0) (by decide) (Or.inr (by decide))
    show cw_C _ _ [vr x_reader_, vi 0] (cw_put (q_m m co hd fi se te re fa (x_P m (i + 1)) (x_E m (i + 1)) l 0 cl sz) x_reader_text_test_ c sz) _
    rw [q_m_pte]
    have hm3 : la_ok (q_m m co hd fi se (cw_up te c sz) re fa (x_P m (i + 1)) (x_E m (i + 1)) l 0 cl sz) := q_m_ok hm0
    refine (Re_T hm0 hX hlaw 2100).2.2.2.1 _ 0 (i + 1) l p_z co sz hd fi se (cw_up te c sz) re fa cl _ false (by omega) (by omega) (by omega) (by omega) (by omega) (by omega) (by omega) (by omega) he0 (by omega) (by omega) (fun (i4 l4 : Int) (D4 : p_D) (co4 : Int → Int) (z4 : Int) (e4 : p_t (x_c m) (x_v m) o 2100 3 0 (i + 1) l p_z false = .ok (i4, l4, D4)) (G4 : e_g co sz co4 z4 (i + 1) i4) (T4 : e_sg co4 sz z4 l D4) => ⟨(q_m_ok hm0), ?_⟩) (fun (r4 : Int) (co4 : Int → Int) (s4 q4 a4 p4 z4 : Int) (e4 : p_t (x_c m) (x_v m) o 2100 3 0 (i + 1) l p_z false = .error r4) => ⟨(q_m_ok hm0), ?_⟩)
    · have N4 := p_Nok ((p_tN (c := x_c m) (v := x_v m) (o := o) hz 2100 (dp := 0) (i := i + 1) (l := l) (acc := p_z) (ng := false) (by omega) (by omega) (by omega) (by omega)).2.2.2.1 (by omega)) e4
      have S4 := N4.2.2.2.2 rfl
      have G41 := G4.1
      have G42 := G4.2.1
      have L4 : x_c m i4 ≠ 0 → i4 < tk := ltn _ (by omega) (by omega)
      refine br_f (show ¬ ((1 : Int) = 0) by decide) ?_
      show cw_C _ _ [vr x_reader_] (q_m m co4 hd fi se (cw_up te c sz) re fa (x_P m i4) (x_E m i4) l4 0 cl z4) _
      refine Re_finish hm0 (by omega) ⟨(q_m_ok hm0), ?_⟩
      refine br_f (show ¬ ((1 : Int) = 0) by decide) ?_
      refine And.intro (Or.inr rfl) ?_
      show Q (some (vi 1)) (q_m m (cw_up co4 z4 0) hd fi se (cw_up te c sz) re fa (x_P m i4) (x_E m i4) l4 0 cl (z4 + 1))
      exact hok _ _ (some D4) _ _ _ (by unfold p_ift; rw [if_pos (by omega), e4]) (by omega) (by omega) (by omega) (by omega) (e_gw (e_ge G4 (i0 := i) (by omega)) (by omega)) e_rwu (by rw [cw_up_eq]; exact e_pe hz0 (by omega) G41 T4)
    · refine br_t (show (0 : Int) = 0 by decide) ?_
      refine And.intro (Or.inl rfl) ?_
      show Q (some (vi 0)) (q_m m co4 hd fi se (cw_up te c sz) re (x_P m r4) s4 q4 a4 p4 cl z4)
      exact her r4 _ _ _ _ _ _ _ (by unfold p_ift; rw [if_pos (by omega), e4])
  · refine br_f (show ¬ ((-1 : Int) ≠ (-1)) by decide) ?_
    refine And.intro (Or.inr rfl) ?_
    show Q (some (vi 1)) (q_m m co hd fi se te re fa (x_P m i) (x_E m i) l 0 cl sz)
    exact hok _ _ none _ _ _ (by unfold p_ift; rw [if_neg (by omega)]) (by omega) (by omega) (by omega) (by omega) ⟨Int.le_refl _, by omega, fun _ _ => rfl, he0⟩ (fun _ _ => rfl) hte
