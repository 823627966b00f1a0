/-! A law's text is kept, by the class (wip/whole/tools/m163.py). -/
def ts_S (k : Int) : Int := if k = 2 then x_reader_text_head_ else if k = 3 then x_reader_text_first_ else if k = 4 then x_reader_text_second_ else if k = 5 then x_reader_text_test_ else if k = 6 then x_reader_text_repeats_ else x_reader_text_code_
def ts_f (c n z k : Int) : Int := if k = 0 then n else if k = 1 then z else if k = 7 then j_cd (c + 6) z 40 else j_cd (c + k - 1) n 40
def ts_n (n z k : Int) : Int := if k = 7 then z else n
/-- what was made so far of a text that is made -/
def ti_I (m : cw_M) (T c a s : Int) (Fs : List Int) (f : Int → Int) (X : cw_M) : Prop := (X (-1) 0 = a ∧ X (-1) 1 = s) ∧ (∀ z, z ≠ -1 → z ≠ -2 → z < c * 1048576 → X z = m z) ∧ ∀ i ∈ Fs, X T i = f i
section TI
variable {m X : cw_M} {T c a s : Int} {f : Int → Int} {Fs : List Int}
theorem ti_p (hT : c * 1048576 ≤ T ∧ T < (c + 1) * 1048576) (hc : 124 ≤ c) (h : ti_I m T c a s Fs f X) {i v : Int} (hv : v = f i) : ti_I m T c a s (i :: Fs) f (cw_put X T i v) := by
  refine ⟨by rw [cw_put_ne (by omega)]; exact h.1, fun z a b e => by rw [cw_put_ne (by omega)]; exact h.2.1 z a b e, fun j q => ?_⟩
  by_cases e : j = i
  · rw [e, cw_put_eq, hv]
  · rw [cw_put_off e]; exact h.2.2 j ((List.mem_cons.mp q).resolve_left e)
theorem ti_0 (hT : c * 1048576 ≤ T ∧ T < (c + 1) * 1048576) (hc : 124 ≤ c) (h : ti_I m T c a s [] f X) {i v : Int} : ti_I m T c a s [] f (cw_put X T i v) := by
  refine ⟨by rw [cw_put_ne (by omega)]; exact h.1, fun z a b e => by rw [cw_put_ne (by omega)]; exact h.2.1 z a b e, fun j q => by cases q⟩
theorem ti_n (hT : c * 1048576 ≤ T ∧ T < (c + 1) * 1048576) (hc : 124 ≤ c) (h : ti_I m T c a s Fs f X) (ha : c < a) {i n : Int} (hn : 0 ≤ n ∧ n < 16384) (hf : f i = j_cd a n 40) : ti_I m T c (a + 1) (s + n) (i :: Fs) f (cw_put (cw_new X 40 n) T i (cw_nc X 40 n)) := by
  have r2 := cd_r (c := a) (n := n) (t := 40) hn (by decide)
  have en : cw_nc X 40 n = j_cd a n 40 := by rw [nc_cd, h.1.1]
  have nN := new_N (m := X) (t := 40) (n := n) (by rw [h.1.1]; omega) hn.1 (by decide)
  refine ⟨?_, fun z x y e => ?_, fun j q => ?_⟩
  · rw [cw_put_ne (by omega), nN.1, nN.2, h.1.1, h.1.2]; exact ⟨rfl, rfl⟩
  · rw [cw_put_ne (by omega), new_ne x y (by rw [en]; omega)]; exact h.2.1 z x y e
  · by_cases e : j = i
    · rw [e, cw_put_eq, hf, en]
    · rw [cw_put_off e, new_ne (by omega) (by omega) (by rw [en]; omega)]; exact h.2.2 j ((List.mem_cons.mp q).resolve_left e)
end TI
theorem ts_r {c n z k : Int} (hn : 0 ≤ n ∧ n < 16384) (hz : 0 ≤ z ∧ z < 16384) (hk : 2 ≤ k ∧ k ≤ 7) : (c + k - 1) * 1048576 ≤ ts_f c n z k ∧ ts_f c n z k < (c + k) * 1048576 ∧ cw_tg (ts_f c n z k) = 40 ∧ cw_ln (ts_f c n z k) = ts_n n z k ∧ cw_ce (ts_f c n z k) = c + k - 1 := by
  unfold ts_f ts_n
  rw [if_neg (by omega), if_neg (by omega)]
  by_cases e : k = 7
  · have r := cd_r (c := c + 6) (n := z) (t := 40) hz (by decide)
    rw [if_pos e, if_pos e, e]; omega
  · have r := cd_r (c := c + k - 1) (n := n) (t := 40) hn (by decide)
    rw [if_neg e, if_neg e]; omega
/-- the rows that were copied so far -/
def ti_J (m : cw_M) (T c n z : Int) (N : Int → Int) (Rs : List Int) (X : cw_M) : Prop := X (-1) = N ∧ (∀ z, z ≠ -1 → z ≠ -2 → z < c * 1048576 → X z = m z) ∧ (∀ i ∈ [0, 1, 2, 3, 4, 5, 6, 7], X T i = ts_f c n z i) ∧ ∀ k ∈ Rs, ∀ i, 0 ≤ i → i < ts_n n z k → X (ts_f c n z k) i = m (ts_S k) i
theorem ti_c {m X : cw_M} {T c n z k : Int} {N : Int → Int} {Rs : List Int} (hT : c * 1048576 ≤ T ∧ T < (c + 1) * 1048576) (hc : 124 ≤ c) (hn : 0 ≤ n ∧ n < 16384) (hz : 0 ≤ z ∧ z < 16384) (hk : 2 ≤ k ∧ k ≤ 7) (hR : ∀ q ∈ Rs, (2 ≤ q ∧ q ≤ 7) ∧ q ≠ k) (hs : 33554432 ≤ ts_S k ∧ ts_S k < 130023424) (h : ti_J m T c n z N Rs X) : ti_J m T c n z N (k :: Rs) (cw_cpy X (ts_S k) 0 (ts_f c n z k) 0 (ts_n n z k)) := by
  have r := ts_r (c := c) hn hz hk
  refine ⟨by rw [cw_cpy_ne (by omega)]; exact h.1, fun y a b e => by rw [cw_cpy_ne (by omega)]; exact h.2.1 y a b e, fun i q => by rw [cw_cpy_ne (by omega)]; exact h.2.2.1 i q, fun q hq i a b => ?_⟩
  by_cases e : q = k
  · subst e
    rw [cw_cpy_row, cw_row_eq]
    show (if 0 ≤ i ∧ i < 0 + ts_n n z q then X (ts_S q) (0 + (i - 0)) else _) = _
    rw [if_pos (by omega), h.2.1 _ (by omega) (by omega) (by omega)]
    congr 1
    omega
  · have hq2 := (List.mem_cons.mp hq).resolve_left e
    have r2 := ts_r (c := c) hn hz (hR q hq2).1
    rw [cw_cpy_ne (by omega)]
    exact h.2.2.2 q hq2 i a b
theorem e_ptp {co co1 : Int → Int} {sz p : Int} {D : Option p_D} (h : e_pt co sz p D) (hc : ∀ j, 0 ≤ j → j < sz → co1 j = co j) : e_pt co1 sz p D := by
  cases D with
  | none => exact h
  | some T =>
    obtain ⟨h0, b, l, h1, h2, h3, h4, h5⟩ := h
    exact ⟨h0, b, l, e_sgc h1 (fun j hj0 hj => hc j (by omega) (by omega)), by rw [hc b (by omega) h4, h2], h3, h4, h5⟩
theorem e_clsp {o : Bool} {co co1 : Int → Int} {sz : Int} {hd fi se te re hd1 fi1 se1 te1 re1 : Int → Int} {Ks : List p_K} (h : e_cls o co sz hd fi se te re Ks) (hc : ∀ j, 0 ≤ j → j < sz → co1 j = co j) (h1 : ∀ j, 0 ≤ j → j < (Ks.length : Int) → hd1 j = hd j ∧ fi1 j = fi j ∧ se1 j = se j ∧ te1 j = te j ∧ re1 j = re j) : e_cls o co1 sz hd1 fi1 se1 te1 re1 Ks := fun j K hj => by
  have hl : j < Ks.length := by
    obtain ⟨q, -⟩ := List.getElem?_eq_some_iff.mp hj
    exact q
  obtain ⟨a, b, c, d, e⟩ := h j K hj
  obtain ⟨x1, x2, x3, x4, x5⟩ := h1 j (by omega) (by omega)
  rw [x1, x2, x3, x4, x5]
  exact ⟨a, b, e_ptp c hc, e_ptp d hc, e_ptp e hc⟩
theorem Te_init1 {d : Nat} {m : cw_M} {Q : Option cw_V → cw_M → Prop} {T c s n z : Int} (hm : la_ok m) (hTe : T = j_cd c 8 8) (hc : 124 ≤ c) (hN : m (-1) 0 = c + 1) (hs : m (-1) 1 = s) (hr : c + 9 ≤ 600000 ∧ 0 ≤ s ∧ s + 500 ≤ 7000000) (h0 : m x_reader_text_ 0 = n) (h1 : m x_reader_text_ 1 = z) (hn : 0 ≤ n ∧ n ≤ 12) (hz : 0 ≤ z ∧ z ≤ 400) (hQ : ∀ X, X (-1) 0 = c + 7 → X (-1) 1 = s + (5 * n + z) → ((∀ z, z ≠ -1 → z ≠ -2 → z < c * 1048576 → X z = m z) ∧ (∀ i ∈ [0, 1, 2, 3, 4, 5, 6, 7], X T i = ts_f c n z i) ∧ ∀ k ∈ [7, 6, 5, 4, 3, 2], ∀ i, 0 ≤ i → i < ts_n n z k → X (ts_f c n z k) i = m (ts_S k) i) → Q none X) : cw_C (d + 1) k_Te_init1 [vr T, vr x_reader_text_] m Q := by
  have r := cd_r (c := c) (n := 8) (t := 8) (by decide) (by decide)
  rw [← hTe] at r
  have hT : c * 1048576 ≤ T ∧ T < (c + 1) * 1048576 := ⟨r.1, r.2.1⟩
  have hT0 : T ≠ 0 := by omega
  have hT8 : cw_tg T = 8 := r.2.2.1
  have hTo : cw_own T := by unfold cw_own; omega
  have hR8 : cw_tg x_reader_text_ = 8 := by decide
  have xr : 0 < x_reader_text_ ∧ x_reader_text_ < 130023424 := by decide
  have c0 : ti_I m T c (c + 1) s [] (ts_f c n z) m := ⟨⟨hN, hs⟩, fun _ _ _ _ => rfl, fun i q => by cases q⟩
  refine cw_go_C 6 [9] ?_
  refine And.intro hT0 (And.intro ⟨hT8, hTo⟩ ?_)
  show cw_R _ _ 9 [vr T, vr x_reader_text_] [] (cw_put m T 0 0) _
  have c1 := ti_0 (i := 0) (v := 0) hT hc c0
  generalize cw_put m T 0 0 = X1 at *
  refine cw_go_R 4 [14] ?_
  refine And.intro ⟨hT8, hTo⟩ ?_
  show cw_R _ _ 14 [vr T, vr x_reader_text_] [] (cw_put X1 T 1 0) _
  have c2 := ti_0 (i := 1) (v := 0) hT hc c1
  generalize cw_put X1 T 1 0 = X2 at *
  refine cw_go_R 5 [22] ?_
  refine And.intro hR8 (And.intro ⟨hT8, hTo⟩ ?_)
  show cw_R _ _ 22 [vr T, vr x_reader_text_] [] (cw_put X2 T 0 (X2 x_reader_text_ 0)) _
  have c3 := ti_p (i := 0) (v := X2 x_reader_text_ 0) hT hc c2 (by rw [c2.2.1 x_reader_text_ (by omega) (by omega) (by omega)]; exact h0)
  generalize cw_put X2 T 0 (X2 x_reader_text_ 0) = X3 at *
  refine cw_go_R 5 [30] ?_
  refine And.intro hR8 (And.intro ⟨hT8, hTo⟩ ?_)
  show cw_R _ _ 30 [vr T, vr x_reader_text_] [] (cw_put X3 T 1 (X3 x_reader_text_ 1)) _
  have c4 := ti_p (i := 1) (v := X3 x_reader_text_ 1) hT hc c3 (by rw [c3.2.1 x_reader_text_ (by omega) (by omega) (by omega)]; exact h1)
  generalize cw_put X3 T 1 (X3 x_reader_text_ 1) = X4 at *
  refine cw_go_R 6 [40] ?_
  have g4 : X4 T 0 = n := c4.2.2 0 (by decide)
  refine And.intro hT8 (And.intro (show (0 ≤ X4 T 0 ∧ X4 T 0 < 16384) ∧ X4 (-1) 0 < cw_LC ∧ X4 (-1) 1 + X4 T 0 ≤ cw_LS by rw [g4, c4.1.1, c4.1.2]; exact ⟨by omega, by unfold cw_LC; omega, by unfold cw_LS; omega⟩) (And.intro ⟨hT8, hTo⟩ ?_))
  show cw_R _ _ 40 [vr T, vr x_reader_text_] [] (cw_put (cw_new X4 40 (X4 T 0)) T 2 (cw_nc X4 40 (X4 T 0))) _
  rw [g4]
  have c5 := ti_n (i := 2) (n := n) hT hc c4 (by omega) (by omega) (by show j_cd _ _ 40 = j_cd _ _ 40; congr 1; omega)
  generalize cw_put (cw_new X4 40 n) T 2 (cw_nc X4 40 n) = X5 at *
  refine cw_go_R 6 [50] ?_
  have g5 : X5 T 0 = n := c5.2.2 0 (by decide)
  refine And.intro hT8 (And.intro (show (0 ≤ X5 T 0 ∧ X5 T 0 < 16384) ∧ X5 (-1) 0 < cw_LC ∧ X5 (-1) 1 + X5 T 0 ≤ cw_LS by rw [g5, c5.1.1, c5.1.2]; exact ⟨by omega, by unfold cw_LC; omega, by unfold cw_LS; omega⟩) (And.intro ⟨hT8, hTo⟩ ?_))
  show cw_R _ _ 50 [vr T, vr x_reader_text_] [] (cw_put (cw_new X5 40 (X5 T 0)) T 3 (cw_nc X5 40 (X5 T 0))) _
  rw [g5]
  have c6 := ti_n (i := 3) (n := n) hT hc c5 (by omega) (by omega) (by show j_cd _ _ 40 = j_cd _ _ 40; congr 1; omega)
  generalize cw_put (cw_new X5 40 n) T 3 (cw_nc X5 40 n) = X6 at *
  refine cw_go_R 6 [60] ?_
  have g6 : X6 T 0 = n := c6.2.2 0 (by decide)
  refine And.intro hT8 (And.intro (show (0 ≤ X6 T 0 ∧ X6 T 0 < 16384) ∧ X6 (-1) 0 < cw_LC ∧ X6 (-1) 1 + X6 T 0 ≤ cw_LS by rw [g6, c6.1.1, c6.1.2]; exact ⟨by omega, by unfold cw_LC; omega, by unfold cw_LS; omega⟩) (And.intro ⟨hT8, hTo⟩ ?_))
  show cw_R _ _ 60 [vr T, vr x_reader_text_] [] (cw_put (cw_new X6 40 (X6 T 0)) T 4 (cw_nc X6 40 (X6 T 0))) _
  rw [g6]
  have c7 := ti_n (i := 4) (n := n) hT hc c6 (by omega) (by omega) (by show j_cd _ _ 40 = j_cd _ _ 40; congr 1; omega)
  generalize cw_put (cw_new X6 40 n) T 4 (cw_nc X6 40 n) = X7 at *
  refine cw_go_R 6 [70] ?_
  have g7 : X7 T 0 = n := c7.2.2 0 (by decide)
  refine And.intro hT8 (And.intro (show (0 ≤ X7 T 0 ∧ X7 T 0 < 16384) ∧ X7 (-1) 0 < cw_LC ∧ X7 (-1) 1 + X7 T 0 ≤ cw_LS by rw [g7, c7.1.1, c7.1.2]; exact ⟨by omega, by unfold cw_LC; omega, by unfold cw_LS; omega⟩) (And.intro ⟨hT8, hTo⟩ ?_))
  show cw_R _ _ 70 [vr T, vr x_reader_text_] [] (cw_put (cw_new X7 40 (X7 T 0)) T 5 (cw_nc X7 40 (X7 T 0))) _
  rw [g7]
  have c8 := ti_n (i := 5) (n := n) hT hc c7 (by omega) (by omega) (by show j_cd _ _ 40 = j_cd _ _ 40; congr 1; omega)
  generalize cw_put (cw_new X7 40 n) T 5 (cw_nc X7 40 n) = X8 at *
  refine cw_go_R 6 [80] ?_
  have g8 : X8 T 0 = n := c8.2.2 0 (by decide)
  refine And.intro hT8 (And.intro (show (0 ≤ X8 T 0 ∧ X8 T 0 < 16384) ∧ X8 (-1) 0 < cw_LC ∧ X8 (-1) 1 + X8 T 0 ≤ cw_LS by rw [g8, c8.1.1, c8.1.2]; exact ⟨by omega, by unfold cw_LC; omega, by unfold cw_LS; omega⟩) (And.intro ⟨hT8, hTo⟩ ?_))
  show cw_R _ _ 80 [vr T, vr x_reader_text_] [] (cw_put (cw_new X8 40 (X8 T 0)) T 6 (cw_nc X8 40 (X8 T 0))) _
  rw [g8]
  have c9 := ti_n (i := 6) (n := n) hT hc c8 (by omega) (by omega) (by show j_cd _ _ 40 = j_cd _ _ 40; congr 1; omega)
  generalize cw_put (cw_new X8 40 n) T 6 (cw_nc X8 40 n) = X9 at *
  refine cw_go_R 6 [90] ?_
  have g9 : X9 T 1 = z := c9.2.2 1 (by decide)
  refine And.intro hT8 (And.intro (show (0 ≤ X9 T 1 ∧ X9 T 1 < 16384) ∧ X9 (-1) 0 < cw_LC ∧ X9 (-1) 1 + X9 T 1 ≤ cw_LS by rw [g9, c9.1.1, c9.1.2]; exact ⟨by omega, by unfold cw_LC; omega, by unfold cw_LS; omega⟩) (And.intro ⟨hT8, hTo⟩ ?_))
  show cw_R _ _ 90 [vr T, vr x_reader_text_] [] (cw_put (cw_new X9 40 (X9 T 1)) T 7 (cw_nc X9 40 (X9 T 1))) _
  rw [g9]
  have c10 := ti_n (i := 7) (n := z) hT hc c9 (by omega) (by omega) (by show j_cd _ _ 40 = j_cd _ _ 40; congr 1; omega)
  generalize cw_put (cw_new X9 40 z) T 7 (cw_nc X9 40 z) = X10 at *
  have j0 : ti_J m T c n z (X10 (-1)) [] X10 := ⟨rfl, c10.2.1, fun i hi => c10.2.2 i (by revert hi; revert i; decide), fun k hk => by cases hk⟩
  have nN : X10 (-1) 0 = c + 7 ∧ X10 (-1) 1 = s + (5 * n + z) := by rw [c10.1.1, c10.1.2]; omega
  generalize X10 (-1) = N at *
  clear c1 c2 c3 c4 c5 c6 c7 c8 c9 c10 g4 g5 g6 g7 g8 g9
  refine cw_go_R 10 [107] ?_
  have eR2 : X10 x_reader_text_ 2 = ts_S 2 := by rw [j0.2.1 x_reader_text_ (by omega) (by omega) (by omega)]; exact la_get hm (by decide) (by decide) (by decide)
  have eT2 : X10 T 2 = ts_f c n z 2 := j0.2.2.1 2 (by decide)
  have eN2 : X10 T 0 = ts_n n z 2 := j0.2.2.1 0 (by decide)
  have r2 := ts_r (c := c) (n := n) (z := z) (k := 2) (by omega) (by omega) (by decide)
  have l2 : ts_n n z 2 = n := rfl
  refine And.intro hR8 (And.intro hT8 (And.intro hT8 (And.intro (show (cw_tg (X10 x_reader_text_ 2) = 40 ∧ cw_tg (X10 T 2) = 40 ∧ cw_own (X10 x_reader_text_ 2) ∧ cw_own (X10 T 2)) ∧ ((0 : Int) ≤ 0 ∧ (0 : Int) ≤ 0 ∧ 0 ≤ X10 T 0) ∧ 0 + X10 T 0 ≤ cw_ln (X10 x_reader_text_ 2) ∧ 0 + X10 T 0 ≤ cw_ln (X10 T 2) by rw [eR2, eT2, eN2]; exact ⟨⟨by decide, r2.2.2.1, by unfold cw_own; decide, by unfold cw_own; omega⟩, ⟨by decide, by decide, by omega⟩, by rw [show cw_ln (ts_S 2) = 12 by decide]; omega, by omega⟩) ?_)))
  show cw_R _ _ 107 [vr T, vr x_reader_text_] [] (cw_cpy X10 (X10 x_reader_text_ 2) 0 (X10 T 2) 0 (X10 T 0)) _
  rw [eR2, eT2, eN2]
  have j1 := ti_c (k := 2) hT hc (by omega) (by omega) (by decide) (by decide) (by decide) j0
  generalize cw_cpy X10 (ts_S 2) 0 (ts_f c n z 2) 0 (ts_n n z 2) = Y2 at *
  refine cw_go_R 10 [124] ?_
  have eR3 : Y2 x_reader_text_ 3 = ts_S 3 := by rw [j1.2.1 x_reader_text_ (by omega) (by omega) (by omega)]; exact la_get hm (by decide) (by decide) (by decide)
  have eT3 : Y2 T 3 = ts_f c n z 3 := j1.2.2.1 3 (by decide)
  have eN3 : Y2 T 0 = ts_n n z 3 := j1.2.2.1 0 (by decide)
  have r3 := ts_r (c := c) (n := n) (z := z) (k := 3) (by omega) (by omega) (by decide)
  have l3 : ts_n n z 3 = n := rfl
  refine And.intro hR8 (And.intro hT8 (And.intro hT8 (And.intro (show (cw_tg (Y2 x_reader_text_ 3) = 40 ∧ cw_tg (Y2 T 3) = 40 ∧ cw_own (Y2 x_reader_text_ 3) ∧ cw_own (Y2 T 3)) ∧ ((0 : Int) ≤ 0 ∧ (0 : Int) ≤ 0 ∧ 0 ≤ Y2 T 0) ∧ 0 + Y2 T 0 ≤ cw_ln (Y2 x_reader_text_ 3) ∧ 0 + Y2 T 0 ≤ cw_ln (Y2 T 3) by rw [eR3, eT3, eN3]; exact ⟨⟨by decide, r3.2.2.1, by unfold cw_own; decide, by unfold cw_own; omega⟩, ⟨by decide, by decide, by omega⟩, by rw [show cw_ln (ts_S 3) = 12 by decide]; omega, by omega⟩) ?_)))
  show cw_R _ _ 124 [vr T, vr x_reader_text_] [] (cw_cpy Y2 (Y2 x_reader_text_ 3) 0 (Y2 T 3) 0 (Y2 T 0)) _
  rw [eR3, eT3, eN3]
  have j2 := ti_c (k := 3) hT hc (by omega) (by omega) (by decide) (by decide) (by decide) j1
  generalize cw_cpy Y2 (ts_S 3) 0 (ts_f c n z 3) 0 (ts_n n z 3) = Y3 at *
  refine cw_go_R 10 [141] ?_
  have eR4 : Y3 x_reader_text_ 4 = ts_S 4 := by rw [j2.2.1 x_reader_text_ (by omega) (by omega) (by omega)]; exact la_get hm (by decide) (by decide) (by decide)
  have eT4 : Y3 T 4 = ts_f c n z 4 := j2.2.2.1 4 (by decide)
  have eN4 : Y3 T 0 = ts_n n z 4 := j2.2.2.1 0 (by decide)
  have r4 := ts_r (c := c) (n := n) (z := z) (k := 4) (by omega) (by omega) (by decide)
  have l4 : ts_n n z 4 = n := rfl
  refine And.intro hR8 (And.intro hT8 (And.intro hT8 (And.intro (show (cw_tg (Y3 x_reader_text_ 4) = 40 ∧ cw_tg (Y3 T 4) = 40 ∧ cw_own (Y3 x_reader_text_ 4) ∧ cw_own (Y3 T 4)) ∧ ((0 : Int) ≤ 0 ∧ (0 : Int) ≤ 0 ∧ 0 ≤ Y3 T 0) ∧ 0 + Y3 T 0 ≤ cw_ln (Y3 x_reader_text_ 4) ∧ 0 + Y3 T 0 ≤ cw_ln (Y3 T 4) by rw [eR4, eT4, eN4]; exact ⟨⟨by decide, r4.2.2.1, by unfold cw_own; decide, by unfold cw_own; omega⟩, ⟨by decide, by decide, by omega⟩, by rw [show cw_ln (ts_S 4) = 12 by decide]; omega, by omega⟩) ?_)))
  show cw_R _ _ 141 [vr T, vr x_reader_text_] [] (cw_cpy Y3 (Y3 x_reader_text_ 4) 0 (Y3 T 4) 0 (Y3 T 0)) _
  rw [eR4, eT4, eN4]
  have j3 := ti_c (k := 4) hT hc (by omega) (by omega) (by decide) (by decide) (by decide) j2
  generalize cw_cpy Y3 (ts_S 4) 0 (ts_f c n z 4) 0 (ts_n n z 4) = Y4 at *
  refine cw_go_R 10 [158] ?_
  have eR5 : Y4 x_reader_text_ 5 = ts_S 5 := by rw [j3.2.1 x_reader_text_ (by omega) (by omega) (by omega)]; exact la_get hm (by decide) (by decide) (by decide)
  have eT5 : Y4 T 5 = ts_f c n z 5 := j3.2.2.1 5 (by decide)
  have eN5 : Y4 T 0 = ts_n n z 5 := j3.2.2.1 0 (by decide)
  have r5 := ts_r (c := c) (n := n) (z := z) (k := 5) (by omega) (by omega) (by decide)
  have l5 : ts_n n z 5 = n := rfl
  refine And.intro hR8 (And.intro hT8 (And.intro hT8 (And.intro (show (cw_tg (Y4 x_reader_text_ 5) = 40 ∧ cw_tg (Y4 T 5) = 40 ∧ cw_own (Y4 x_reader_text_ 5) ∧ cw_own (Y4 T 5)) ∧ ((0 : Int) ≤ 0 ∧ (0 : Int) ≤ 0 ∧ 0 ≤ Y4 T 0) ∧ 0 + Y4 T 0 ≤ cw_ln (Y4 x_reader_text_ 5) ∧ 0 + Y4 T 0 ≤ cw_ln (Y4 T 5) by rw [eR5, eT5, eN5]; exact ⟨⟨by decide, r5.2.2.1, by unfold cw_own; decide, by unfold cw_own; omega⟩, ⟨by decide, by decide, by omega⟩, by rw [show cw_ln (ts_S 5) = 12 by decide]; omega, by omega⟩) ?_)))
  show cw_R _ _ 158 [vr T, vr x_reader_text_] [] (cw_cpy Y4 (Y4 x_reader_text_ 5) 0 (Y4 T 5) 0 (Y4 T 0)) _
  rw [eR5, eT5, eN5]
  have j4 := ti_c (k := 5) hT hc (by omega) (by omega) (by decide) (by decide) (by decide) j3
  generalize cw_cpy Y4 (ts_S 5) 0 (ts_f c n z 5) 0 (ts_n n z 5) = Y5 at *
  refine cw_go_R 10 [175] ?_
  have eR6 : Y5 x_reader_text_ 6 = ts_S 6 := by rw [j4.2.1 x_reader_text_ (by omega) (by omega) (by omega)]; exact la_get hm (by decide) (by decide) (by decide)
  have eT6 : Y5 T 6 = ts_f c n z 6 := j4.2.2.1 6 (by decide)
  have eN6 : Y5 T 0 = ts_n n z 6 := j4.2.2.1 0 (by decide)
  have r6 := ts_r (c := c) (n := n) (z := z) (k := 6) (by omega) (by omega) (by decide)
  have l6 : ts_n n z 6 = n := rfl
  refine And.intro hR8 (And.intro hT8 (And.intro hT8 (And.intro (show (cw_tg (Y5 x_reader_text_ 6) = 40 ∧ cw_tg (Y5 T 6) = 40 ∧ cw_own (Y5 x_reader_text_ 6) ∧ cw_own (Y5 T 6)) ∧ ((0 : Int) ≤ 0 ∧ (0 : Int) ≤ 0 ∧ 0 ≤ Y5 T 0) ∧ 0 + Y5 T 0 ≤ cw_ln (Y5 x_reader_text_ 6) ∧ 0 + Y5 T 0 ≤ cw_ln (Y5 T 6) by rw [eR6, eT6, eN6]; exact ⟨⟨by decide, r6.2.2.1, by unfold cw_own; decide, by unfold cw_own; omega⟩, ⟨by decide, by decide, by omega⟩, by rw [show cw_ln (ts_S 6) = 12 by decide]; omega, by omega⟩) ?_)))
  show cw_R _ _ 175 [vr T, vr x_reader_text_] [] (cw_cpy Y5 (Y5 x_reader_text_ 6) 0 (Y5 T 6) 0 (Y5 T 0)) _
  rw [eR6, eT6, eN6]
  have j5 := ti_c (k := 6) hT hc (by omega) (by omega) (by decide) (by decide) (by decide) j4
  generalize cw_cpy Y5 (ts_S 6) 0 (ts_f c n z 6) 0 (ts_n n z 6) = Y6 at *
  refine cw_go_R 10 [192] ?_
  have eR7 : Y6 x_reader_text_ 7 = ts_S 7 := by rw [j5.2.1 x_reader_text_ (by omega) (by omega) (by omega)]; exact la_get hm (by decide) (by decide) (by decide)
  have eT7 : Y6 T 7 = ts_f c n z 7 := j5.2.2.1 7 (by decide)
  have eN7 : Y6 T 1 = ts_n n z 7 := j5.2.2.1 1 (by decide)
  have r7 := ts_r (c := c) (n := n) (z := z) (k := 7) (by omega) (by omega) (by decide)
  have l7 : ts_n n z 7 = z := rfl
  refine And.intro hR8 (And.intro hT8 (And.intro hT8 (And.intro (show (cw_tg (Y6 x_reader_text_ 7) = 40 ∧ cw_tg (Y6 T 7) = 40 ∧ cw_own (Y6 x_reader_text_ 7) ∧ cw_own (Y6 T 7)) ∧ ((0 : Int) ≤ 0 ∧ (0 : Int) ≤ 0 ∧ 0 ≤ Y6 T 1) ∧ 0 + Y6 T 1 ≤ cw_ln (Y6 x_reader_text_ 7) ∧ 0 + Y6 T 1 ≤ cw_ln (Y6 T 7) by rw [eR7, eT7, eN7]; exact ⟨⟨by decide, r7.2.2.1, by unfold cw_own; decide, by unfold cw_own; omega⟩, ⟨by decide, by decide, by omega⟩, by rw [show cw_ln (ts_S 7) = 400 by decide]; omega, by omega⟩) ?_)))
  show cw_R _ _ 192 [vr T, vr x_reader_text_] [] (cw_cpy Y6 (Y6 x_reader_text_ 7) 0 (Y6 T 7) 0 (Y6 T 1)) _
  rw [eR7, eT7, eN7]
  have j6 := ti_c (k := 7) hT hc (by omega) (by omega) (by decide) (by decide) (by decide) j5
  generalize cw_cpy Y6 (ts_S 7) 0 (ts_f c n z 7) 0 (ts_n n z 7) = Y7 at *
  refine cw_go_R 2 [] ?_
  show Q none Y7
  exact hQ Y7 (by rw [j6.1]; exact nN.1) (by rw [j6.1]; exact nN.2) j6.2
