/-! The class looks at its tape (wip/whole/tools/m65.py). -/
def q_m (m : cw_M) (co hd fi se te re : Int → Int) (fa st sp pa op cl sz : Int) : cw_M := fun c => if c = x_reader_text_code_ then co else if c = x_reader_text_head_ then hd else if c = x_reader_text_first_ then fi else if c = x_reader_text_second_ then se else if c = x_reader_text_test_ then te else if c = x_reader_text_repeats_ then re else if c = x_reader_ then (fun j => if j = 2 then fa else if j = 5 then st else if j = 6 then sp else if j = 7 then pa else if j = 8 then op else m x_reader_ j) else if c = x_reader_text_ then (fun j => if j = 0 then cl else if j = 1 then sz else m x_reader_text_ j) else m c
theorem q_m_ne {m : cw_M} {co hd fi se te re : Int → Int} {fa st sp pa op cl sz : Int} {c : Int} (h0 : c ≠ x_reader_text_code_) (h1 : c ≠ x_reader_text_head_) (h2 : c ≠ x_reader_text_first_) (h3 : c ≠ x_reader_text_second_) (h4 : c ≠ x_reader_text_test_) (h5 : c ≠ x_reader_text_repeats_) (h6 : c ≠ x_reader_) (h7 : c ≠ x_reader_text_) : q_m m co hd fi se te re fa st sp pa op cl sz c = m c := by
  unfold q_m; rw [if_neg h0, if_neg h1, if_neg h2, if_neg h3, if_neg h4, if_neg h5, if_neg h6, if_neg h7]
theorem q_m_co {m : cw_M} {co hd fi se te re : Int → Int} {fa st sp pa op cl sz : Int} : q_m m co hd fi se te re fa st sp pa op cl sz x_reader_text_code_ = co := rfl
theorem q_m_hd {m : cw_M} {co hd fi se te re : Int → Int} {fa st sp pa op cl sz : Int} : q_m m co hd fi se te re fa st sp pa op cl sz x_reader_text_head_ = hd := rfl
theorem q_m_fi {m : cw_M} {co hd fi se te re : Int → Int} {fa st sp pa op cl sz : Int} : q_m m co hd fi se te re fa st sp pa op cl sz x_reader_text_first_ = fi := rfl
theorem q_m_se {m : cw_M} {co hd fi se te re : Int → Int} {fa st sp pa op cl sz : Int} : q_m m co hd fi se te re fa st sp pa op cl sz x_reader_text_second_ = se := rfl
theorem q_m_te {m : cw_M} {co hd fi se te re : Int → Int} {fa st sp pa op cl sz : Int} : q_m m co hd fi se te re fa st sp pa op cl sz x_reader_text_test_ = te := rfl
theorem q_m_re {m : cw_M} {co hd fi se te re : Int → Int} {fa st sp pa op cl sz : Int} : q_m m co hd fi se te re fa st sp pa op cl sz x_reader_text_repeats_ = re := rfl
theorem q_m_ox_reader_ {m : cw_M} {co hd fi se te re : Int → Int} {fa st sp pa op cl sz : Int} {j : Int} (h0 : j ≠ 2) (h1 : j ≠ 5) (h2 : j ≠ 6) (h3 : j ≠ 7) (h4 : j ≠ 8) : q_m m co hd fi se te re fa st sp pa op cl sz x_reader_ j = m x_reader_ j := by
  show (if j = 2 then fa else if j = 5 then st else if j = 6 then sp else if j = 7 then pa else if j = 8 then op else m x_reader_ j) = _
  rw [if_neg h0, if_neg h1, if_neg h2, if_neg h3, if_neg h4]
theorem q_m_ox_reader_text_ {m : cw_M} {co hd fi se te re : Int → Int} {fa st sp pa op cl sz : Int} {j : Int} (h0 : j ≠ 0) (h1 : j ≠ 1) : q_m m co hd fi se te re fa st sp pa op cl sz x_reader_text_ j = m x_reader_text_ j := by
  show (if j = 0 then cl else if j = 1 then sz else m x_reader_text_ j) = _
  rw [if_neg h0, if_neg h1]
theorem q_m_ok {m : cw_M} {co hd fi se te re : Int → Int} {fa st sp pa op cl sz : Int} (hm : la_ok m) : la_ok (q_m m co hd fi se te re fa st sp pa op cl sz) := by
  refine ⟨by rw [q_m_ne (by decide) (by decide) (by decide) (by decide) (by decide) (by decide) (by decide) (by decide)]; exact hm.1, fun e he => ?_⟩
  obtain ⟨z1, h2, -, z4⟩ := la_lok e he
  have n0 : e.1 ≠ x_reader_text_code_ := fun q => by rw [q] at h2; revert h2; decide
  have n1 : e.1 ≠ x_reader_text_head_ := fun q => by rw [q] at h2; revert h2; decide
  have n2 : e.1 ≠ x_reader_text_first_ := fun q => by rw [q] at h2; revert h2; decide
  have n3 : e.1 ≠ x_reader_text_second_ := fun q => by rw [q] at h2; revert h2; decide
  have n4 : e.1 ≠ x_reader_text_test_ := fun q => by rw [q] at h2; revert h2; decide
  have n5 : e.1 ≠ x_reader_text_repeats_ := fun q => by rw [q] at h2; revert h2; decide
  by_cases q0 : e.1 = x_reader_
  · rw [q0, q_m_ox_reader_ (fun q => by rw [q0, q] at z4; cases z4) (fun q => by rw [q0, q] at z4; cases z4) (fun q => by rw [q0, q] at z4; cases z4) (fun q => by rw [q0, q] at z4; cases z4) (fun q => by rw [q0, q] at z4; cases z4), ← q0]; exact hm.2 e he
  by_cases q1 : e.1 = x_reader_text_
  · rw [q1, q_m_ox_reader_text_ (fun q => by rw [q1, q] at z4; cases z4) (fun q => by rw [q1, q] at z4; cases z4), ← q1]; exact hm.2 e he
  rw [q_m_ne n0 n1 n2 n3 n4 n5 q0 q1]; exact hm.2 e he
theorem q_m_x {m M : cw_M} {co hd fi se te re : Int → Int} {fa st sp pa op cl sz : Int} (r0 : M x_reader_text_code_ = co) (r1 : M x_reader_text_head_ = hd) (r2 : M x_reader_text_first_ = fi) (r3 : M x_reader_text_second_ = se) (r4 : M x_reader_text_test_ = te) (r5 : M x_reader_text_repeats_ = re) (f0 : M x_reader_ 2 = fa) (f1 : M x_reader_ 5 = st) (f2 : M x_reader_ 6 = sp) (f3 : M x_reader_ 7 = pa) (f4 : M x_reader_ 8 = op) (f5 : M x_reader_text_ 0 = cl) (f6 : M x_reader_text_ 1 = sz) (o0 : ∀ j, j ≠ 2 → j ≠ 5 → j ≠ 6 → j ≠ 7 → j ≠ 8 → M x_reader_ j = m x_reader_ j) (o1 : ∀ j, j ≠ 0 → j ≠ 1 → M x_reader_text_ j = m x_reader_text_ j) (h : ∀ c, c ≠ x_reader_text_code_ → c ≠ x_reader_text_head_ → c ≠ x_reader_text_first_ → c ≠ x_reader_text_second_ → c ≠ x_reader_text_test_ → c ≠ x_reader_text_repeats_ → c ≠ x_reader_ → c ≠ x_reader_text_ → M c = m c) : M = q_m m co hd fi se te re fa st sp pa op cl sz := by
  funext c
  by_cases h0 : c = x_reader_text_code_
  · rw [h0, r0]; rfl
  by_cases h1 : c = x_reader_text_head_
  · rw [h1, r1]; rfl
  by_cases h2 : c = x_reader_text_first_
  · rw [h2, r2]; rfl
  by_cases h3 : c = x_reader_text_second_
  · rw [h3, r3]; rfl
  by_cases h4 : c = x_reader_text_test_
  · rw [h4, r4]; rfl
  by_cases h5 : c = x_reader_text_repeats_
  · rw [h5, r5]; rfl
  by_cases h6 : c = x_reader_
  · funext j
    rw [h6]
    by_cases z0 : j = 2
    · rw [z0, f0]; rfl
    by_cases z1 : j = 5
    · rw [z1, f1]; rfl
    by_cases z2 : j = 6
    · rw [z2, f2]; rfl
    by_cases z3 : j = 7
    · rw [z3, f3]; rfl
    by_cases z4 : j = 8
    · rw [z4, f4]; rfl
    rw [o0 j z0 z1 z2 z3 z4, q_m_ox_reader_ z0 z1 z2 z3 z4]
  by_cases h7 : c = x_reader_text_
  · funext j
    rw [h7]
    by_cases z0 : j = 0
    · rw [z0, f5]; rfl
    by_cases z1 : j = 1
    · rw [z1, f6]; rfl
    rw [o1 j z0 z1, q_m_ox_reader_text_ z0 z1]
  rw [h c h0 h1 h2 h3 h4 h5 h6 h7, q_m_ne h0 h1 h2 h3 h4 h5 h6 h7]
theorem q_m_rco {m : cw_M} {co hd fi se te re : Int → Int} {fa st sp pa op cl sz : Int} {f : Int → Int} : cw_row (q_m m co hd fi se te re fa st sp pa op cl sz) x_reader_text_code_ f = q_m m f hd fi se te re fa st sp pa op cl sz := by
  refine q_m_x rfl rfl rfl rfl rfl rfl rfl rfl rfl rfl rfl rfl rfl (fun j z0 z1 z2 z3 z4 => by rw [cw_row_ne (by decide), q_m_ox_reader_ z0 z1 z2 z3 z4]) (fun j z0 z1 => by rw [cw_row_ne (by decide), q_m_ox_reader_text_ z0 z1]) (fun c h0 h1 h2 h3 h4 h5 h6 h7 => by rw [cw_row_ne h0, q_m_ne h0 h1 h2 h3 h4 h5 h6 h7])
theorem q_m_pco {m : cw_M} {co hd fi se te re : Int → Int} {fa st sp pa op cl sz : Int} {i v : Int} : cw_put (q_m m co hd fi se te re fa st sp pa op cl sz) x_reader_text_code_ i v = q_m m (cw_up co i v) hd fi se te re fa st sp pa op cl sz := by
  rw [cw_put_row, q_m_rco, q_m_co]
theorem q_m_rhd {m : cw_M} {co hd fi se te re : Int → Int} {fa st sp pa op cl sz : Int} {f : Int → Int} : cw_row (q_m m co hd fi se te re fa st sp pa op cl sz) x_reader_text_head_ f = q_m m co f fi se te re fa st sp pa op cl sz := by
  refine q_m_x rfl rfl rfl rfl rfl rfl rfl rfl rfl rfl rfl rfl rfl (fun j z0 z1 z2 z3 z4 => by rw [cw_row_ne (by decide), q_m_ox_reader_ z0 z1 z2 z3 z4]) (fun j z0 z1 => by rw [cw_row_ne (by decide), q_m_ox_reader_text_ z0 z1]) (fun c h0 h1 h2 h3 h4 h5 h6 h7 => by rw [cw_row_ne h1, q_m_ne h0 h1 h2 h3 h4 h5 h6 h7])
theorem q_m_phd {m : cw_M} {co hd fi se te re : Int → Int} {fa st sp pa op cl sz : Int} {i v : Int} : cw_put (q_m m co hd fi se te re fa st sp pa op cl sz) x_reader_text_head_ i v = q_m m co (cw_up hd i v) fi se te re fa st sp pa op cl sz := by
  rw [cw_put_row, q_m_rhd, q_m_hd]
theorem q_m_rfi {m : cw_M} {co hd fi se te re : Int → Int} {fa st sp pa op cl sz : Int} {f : Int → Int} : cw_row (q_m m co hd fi se te re fa st sp pa op cl sz) x_reader_text_first_ f = q_m m co hd f se te re fa st sp pa op cl sz := by
  refine q_m_x rfl rfl rfl rfl rfl rfl rfl rfl rfl rfl rfl rfl rfl (fun j z0 z1 z2 z3 z4 => by rw [cw_row_ne (by decide), q_m_ox_reader_ z0 z1 z2 z3 z4]) (fun j z0 z1 => by rw [cw_row_ne (by decide), q_m_ox_reader_text_ z0 z1]) (fun c h0 h1 h2 h3 h4 h5 h6 h7 => by rw [cw_row_ne h2, q_m_ne h0 h1 h2 h3 h4 h5 h6 h7])
theorem q_m_pfi {m : cw_M} {co hd fi se te re : Int → Int} {fa st sp pa op cl sz : Int} {i v : Int} : cw_put (q_m m co hd fi se te re fa st sp pa op cl sz) x_reader_text_first_ i v = q_m m co hd (cw_up fi i v) se te re fa st sp pa op cl sz := by
  rw [cw_put_row, q_m_rfi, q_m_fi]
theorem q_m_rse {m : cw_M} {co hd fi se te re : Int → Int} {fa st sp pa op cl sz : Int} {f : Int → Int} : cw_row (q_m m co hd fi se te re fa st sp pa op cl sz) x_reader_text_second_ f = q_m m co hd fi f te re fa st sp pa op cl sz := by
  refine q_m_x rfl rfl rfl rfl rfl rfl rfl rfl rfl rfl rfl rfl rfl (fun j z0 z1 z2 z3 z4 => by rw [cw_row_ne (by decide), q_m_ox_reader_ z0 z1 z2 z3 z4]) (fun j z0 z1 => by rw [cw_row_ne (by decide), q_m_ox_reader_text_ z0 z1]) (fun c h0 h1 h2 h3 h4 h5 h6 h7 => by rw [cw_row_ne h3, q_m_ne h0 h1 h2 h3 h4 h5 h6 h7])
theorem q_m_pse {m : cw_M} {co hd fi se te re : Int → Int} {fa st sp pa op cl sz : Int} {i v : Int} : cw_put (q_m m co hd fi se te re fa st sp pa op cl sz) x_reader_text_second_ i v = q_m m co hd fi (cw_up se i v) te re fa st sp pa op cl sz := by
  rw [cw_put_row, q_m_rse, q_m_se]
theorem q_m_rte {m : cw_M} {co hd fi se te re : Int → Int} {fa st sp pa op cl sz : Int} {f : Int → Int} : cw_row (q_m m co hd fi se te re fa st sp pa op cl sz) x_reader_text_test_ f = q_m m co hd fi se f re fa st sp pa op cl sz := by
  refine q_m_x rfl rfl rfl rfl rfl rfl rfl rfl rfl rfl rfl rfl rfl (fun j z0 z1 z2 z3 z4 => by rw [cw_row_ne (by decide), q_m_ox_reader_ z0 z1 z2 z3 z4]) (fun j z0 z1 => by rw [cw_row_ne (by decide), q_m_ox_reader_text_ z0 z1]) (fun c h0 h1 h2 h3 h4 h5 h6 h7 => by rw [cw_row_ne h4, q_m_ne h0 h1 h2 h3 h4 h5 h6 h7])
theorem q_m_pte {m : cw_M} {co hd fi se te re : Int → Int} {fa st sp pa op cl sz : Int} {i v : Int} : cw_put (q_m m co hd fi se te re fa st sp pa op cl sz) x_reader_text_test_ i v = q_m m co hd fi se (cw_up te i v) re fa st sp pa op cl sz := by
  rw [cw_put_row, q_m_rte, q_m_te]
theorem q_m_rre {m : cw_M} {co hd fi se te re : Int → Int} {fa st sp pa op cl sz : Int} {f : Int → Int} : cw_row (q_m m co hd fi se te re fa st sp pa op cl sz) x_reader_text_repeats_ f = q_m m co hd fi se te f fa st sp pa op cl sz := by
  refine q_m_x rfl rfl rfl rfl rfl rfl rfl rfl rfl rfl rfl rfl rfl (fun j z0 z1 z2 z3 z4 => by rw [cw_row_ne (by decide), q_m_ox_reader_ z0 z1 z2 z3 z4]) (fun j z0 z1 => by rw [cw_row_ne (by decide), q_m_ox_reader_text_ z0 z1]) (fun c h0 h1 h2 h3 h4 h5 h6 h7 => by rw [cw_row_ne h5, q_m_ne h0 h1 h2 h3 h4 h5 h6 h7])
theorem q_m_pre {m : cw_M} {co hd fi se te re : Int → Int} {fa st sp pa op cl sz : Int} {i v : Int} : cw_put (q_m m co hd fi se te re fa st sp pa op cl sz) x_reader_text_repeats_ i v = q_m m co hd fi se te (cw_up re i v) fa st sp pa op cl sz := by
  rw [cw_put_row, q_m_rre, q_m_re]
theorem q_m_ffa {m : cw_M} {co hd fi se te re : Int → Int} {fa st sp pa op cl sz : Int} {v : Int} : cw_put (q_m m co hd fi se te re fa st sp pa op cl sz) x_reader_ 2 v = q_m m co hd fi se te re v st sp pa op cl sz := by
  refine q_m_x rfl rfl rfl rfl rfl rfl rfl rfl rfl rfl rfl rfl rfl (fun j z0 z1 z2 z3 z4 => by rw [cw_put_off z0, q_m_ox_reader_ z0 z1 z2 z3 z4]) (fun j z0 z1 => by rw [cw_put_ne (by decide), q_m_ox_reader_text_ z0 z1]) (fun c h0 h1 h2 h3 h4 h5 h6 h7 => by rw [cw_put_ne h6, q_m_ne h0 h1 h2 h3 h4 h5 h6 h7])
theorem q_m_fst {m : cw_M} {co hd fi se te re : Int → Int} {fa st sp pa op cl sz : Int} {v : Int} : cw_put (q_m m co hd fi se te re fa st sp pa op cl sz) x_reader_ 5 v = q_m m co hd fi se te re fa v sp pa op cl sz := by
  refine q_m_x rfl rfl rfl rfl rfl rfl rfl rfl rfl rfl rfl rfl rfl (fun j z0 z1 z2 z3 z4 => by rw [cw_put_off z1, q_m_ox_reader_ z0 z1 z2 z3 z4]) (fun j z0 z1 => by rw [cw_put_ne (by decide), q_m_ox_reader_text_ z0 z1]) (fun c h0 h1 h2 h3 h4 h5 h6 h7 => by rw [cw_put_ne h6, q_m_ne h0 h1 h2 h3 h4 h5 h6 h7])
theorem q_m_fsp {m : cw_M} {co hd fi se te re : Int → Int} {fa st sp pa op cl sz : Int} {v : Int} : cw_put (q_m m co hd fi se te re fa st sp pa op cl sz) x_reader_ 6 v = q_m m co hd fi se te re fa st v pa op cl sz := by
  refine q_m_x rfl rfl rfl rfl rfl rfl rfl rfl rfl rfl rfl rfl rfl (fun j z0 z1 z2 z3 z4 => by rw [cw_put_off z2, q_m_ox_reader_ z0 z1 z2 z3 z4]) (fun j z0 z1 => by rw [cw_put_ne (by decide), q_m_ox_reader_text_ z0 z1]) (fun c h0 h1 h2 h3 h4 h5 h6 h7 => by rw [cw_put_ne h6, q_m_ne h0 h1 h2 h3 h4 h5 h6 h7])
theorem q_m_fpa {m : cw_M} {co hd fi se te re : Int → Int} {fa st sp pa op cl sz : Int} {v : Int} : cw_put (q_m m co hd fi se te re fa st sp pa op cl sz) x_reader_ 7 v = q_m m co hd fi se te re fa st sp v op cl sz := by
  refine q_m_x rfl rfl rfl rfl rfl rfl rfl rfl rfl rfl rfl rfl rfl (fun j z0 z1 z2 z3 z4 => by rw [cw_put_off z3, q_m_ox_reader_ z0 z1 z2 z3 z4]) (fun j z0 z1 => by rw [cw_put_ne (by decide), q_m_ox_reader_text_ z0 z1]) (fun c h0 h1 h2 h3 h4 h5 h6 h7 => by rw [cw_put_ne h6, q_m_ne h0 h1 h2 h3 h4 h5 h6 h7])
theorem q_m_fop {m : cw_M} {co hd fi se te re : Int → Int} {fa st sp pa op cl sz : Int} {v : Int} : cw_put (q_m m co hd fi se te re fa st sp pa op cl sz) x_reader_ 8 v = q_m m co hd fi se te re fa st sp pa v cl sz := by
  refine q_m_x rfl rfl rfl rfl rfl rfl rfl rfl rfl rfl rfl rfl rfl (fun j z0 z1 z2 z3 z4 => by rw [cw_put_off z4, q_m_ox_reader_ z0 z1 z2 z3 z4]) (fun j z0 z1 => by rw [cw_put_ne (by decide), q_m_ox_reader_text_ z0 z1]) (fun c h0 h1 h2 h3 h4 h5 h6 h7 => by rw [cw_put_ne h6, q_m_ne h0 h1 h2 h3 h4 h5 h6 h7])
theorem q_m_fcl {m : cw_M} {co hd fi se te re : Int → Int} {fa st sp pa op cl sz : Int} {v : Int} : cw_put (q_m m co hd fi se te re fa st sp pa op cl sz) x_reader_text_ 0 v = q_m m co hd fi se te re fa st sp pa op v sz := by
  refine q_m_x rfl rfl rfl rfl rfl rfl rfl rfl rfl rfl rfl rfl rfl (fun j z0 z1 z2 z3 z4 => by rw [cw_put_ne (by decide), q_m_ox_reader_ z0 z1 z2 z3 z4]) (fun j z0 z1 => by rw [cw_put_off z0, q_m_ox_reader_text_ z0 z1]) (fun c h0 h1 h2 h3 h4 h5 h6 h7 => by rw [cw_put_ne h7, q_m_ne h0 h1 h2 h3 h4 h5 h6 h7])
theorem q_m_fsz {m : cw_M} {co hd fi se te re : Int → Int} {fa st sp pa op cl sz : Int} {v : Int} : cw_put (q_m m co hd fi se te re fa st sp pa op cl sz) x_reader_text_ 1 v = q_m m co hd fi se te re fa st sp pa op cl v := by
  refine q_m_x rfl rfl rfl rfl rfl rfl rfl rfl rfl rfl rfl rfl rfl (fun j z0 z1 z2 z3 z4 => by rw [cw_put_ne (by decide), q_m_ox_reader_ z0 z1 z2 z3 z4]) (fun j z0 z1 => by rw [cw_put_off z1, q_m_ox_reader_text_ z0 z1]) (fun c h0 h1 h2 h3 h4 h5 h6 h7 => by rw [cw_put_ne h7, q_m_ne h0 h1 h2 h3 h4 h5 h6 h7])
theorem q_m_2 {m : cw_M} {co hd fi se te re : Int → Int} {fa st sp pa op cl sz : Int} {co' hd' fi' se' te' re' : Int → Int} {fa' st' sp' pa' op' cl' sz' : Int} : q_m (q_m m co hd fi se te re fa st sp pa op cl sz) co' hd' fi' se' te' re' fa' st' sp' pa' op' cl' sz' = q_m m co' hd' fi' se' te' re' fa' st' sp' pa' op' cl' sz' := by
  refine q_m_x rfl rfl rfl rfl rfl rfl rfl rfl rfl rfl rfl rfl rfl (fun j z0 z1 z2 z3 z4 => by rw [q_m_ox_reader_ z0 z1 z2 z3 z4, q_m_ox_reader_ z0 z1 z2 z3 z4]) (fun j z0 z1 => by rw [q_m_ox_reader_text_ z0 z1, q_m_ox_reader_text_ z0 z1]) (fun c h0 h1 h2 h3 h4 h5 h6 h7 => by rw [q_m_ne h0 h1 h2 h3 h4 h5 h6 h7, q_m_ne h0 h1 h2 h3 h4 h5 h6 h7])
theorem q_m_self {m : cw_M} : q_m m (m x_reader_text_code_) (m x_reader_text_head_) (m x_reader_text_first_) (m x_reader_text_second_) (m x_reader_text_test_) (m x_reader_text_repeats_) (m x_reader_ 2) (m x_reader_ 5) (m x_reader_ 6) (m x_reader_ 7) (m x_reader_ 8) (m x_reader_text_ 0) (m x_reader_text_ 1) = m := by
  refine (q_m_x rfl rfl rfl rfl rfl rfl rfl rfl rfl rfl rfl rfl rfl (fun _ _ _ _ _ _ => rfl) (fun _ _ _ => rfl) (fun _ _ _ _ _ _ _ _ _ => rfl)).symm
theorem Re_advance0 {d : Nat} {m : cw_M} {Q : Option cw_V → cw_M → Prop} (hm0 : la_ok m) (hn : 0 ≤ m x_reader_ 1 ∧ m x_reader_ 1 ≤ 400) (hb : ∀ i, 0 ≤ i → i < m x_reader_ 1 → 0 ≤ m x_reader_bytes_ i ∧ m x_reader_bytes_ i ≤ 255) {co hd fi se te re : Int → Int} {fa st sp pa op cl sz : Int} (hsp : 0 ≤ sp ∧ sp ≤ m x_reader_ 1) (hQ : Q none (q_m m co hd fi se te re fa (k_bl (m x_reader_bytes_) (m x_reader_ 1) sp) (k_en (m x_reader_bytes_) (m x_reader_ 1) (k_bl (m x_reader_bytes_) (m x_reader_ 1) sp)) pa op cl sz)) : cw_C d k_Re_advance [vr x_reader_] (q_m m co hd fi se te re fa st sp pa op cl sz) Q := by
  have hm : la_ok (q_m m co hd fi se te re fa (k_bl (m x_reader_bytes_) (m x_reader_ 1) sp) sp pa op cl sz) := q_m_ok hm0
  have l118 : ∀ (r : Nat) (t : Int), m x_reader_ 1 < t + r → (0 ≤ t ∧ t ≤ m x_reader_ 1) → (k_rn (m x_reader_bytes_) (m x_reader_ 1) k_sm t = (k_en (m x_reader_bytes_) (m x_reader_ 1) (k_bl (m x_reader_bytes_) (m x_reader_ 1) sp))) → cw_R (d) k_Re_advance 118 [vr x_reader_, vi t, vi 1, vi 0] [] (q_m m co hd fi se te re fa (k_bl (m x_reader_bytes_) (m x_reader_ 1) sp) sp pa op cl sz) Q := by
    intro r
    induction r with
    | zero =>
      intro t hr ht he
      omega
    | succ r ih =>
      intro t hr ht he
      refine la_go_R hm 27 [118] ?_
      refine br_f (by decide) ?_
      refine And.intro (fun (c1 : m x_reader_ 1 ≤ t) => ?_) (fun (c1 : ¬ (m x_reader_ 1 ≤ t)) => ?_)
      · refine br_t (by decide) ?_
        have hm2 : la_ok (cw_put (q_m m co hd fi se te re fa (k_bl (m x_reader_bytes_) (m x_reader_ 1) sp) sp pa op cl sz) x_reader_ 6 t) := la_put hm (by decide) (Or.inl rfl)
        show Q none (cw_put (q_m m co hd fi se te re fa (k_bl (m x_reader_bytes_) (m x_reader_ 1) sp) sp pa op cl sz) x_reader_ 6 t)
        have z : t = (k_en (m x_reader_bytes_) (m x_reader_ 1) (k_bl (m x_reader_bytes_) (m x_reader_ 1) sp)) := by
          rw [k_rn0 (p := k_sm) (fun q => by have z1 := k_smt.mp q.2; omega)] at he
          exact he
        subst z
        rw [q_m_fsp]
        exact hQ
      · refine And.intro (show 0 ≤ t ∧ t < 400 by omega) ?_
        refine And.intro (fun (c3 : m x_reader_bytes_ t < 97) => ?_) (fun (c3 : ¬ (m x_reader_bytes_ t < 97)) => ?_)
        · refine br_t (by decide) ?_
          have hm4 : la_ok (cw_put (q_m m co hd fi se te re fa (k_bl (m x_reader_bytes_) (m x_reader_ 1) sp) sp pa op cl sz) x_reader_ 6 t) := la_put hm (by decide) (Or.inl rfl)
          show Q none (cw_put (q_m m co hd fi se te re fa (k_bl (m x_reader_bytes_) (m x_reader_ 1) sp) sp pa op cl sz) x_reader_ 6 t)
          have z : t = (k_en (m x_reader_bytes_) (m x_reader_ 1) (k_bl (m x_reader_bytes_) (m x_reader_ 1) sp)) := by
            rw [k_rn0 (p := k_sm) (fun q => by have z1 := k_smt.mp q.2; omega)] at he
            exact he
          subst z
          rw [q_m_fsp]
          exact hQ
        · refine And.intro (show 0 ≤ t ∧ t < 400 by omega) ?_
          refine And.intro (fun (c5 : 122 < m x_reader_bytes_ t) => ?_) (fun (c5 : ¬ (122 < m x_reader_bytes_ t)) => ?_)
          · refine br_t (by decide) ?_
            have hm6 : la_ok (cw_put (q_m m co hd fi se te re fa (k_bl (m x_reader_bytes_) (m x_reader_ 1) sp) sp pa op cl sz) x_reader_ 6 t) := la_put hm (by decide) (Or.inl rfl)
            show Q none (cw_put (q_m m co hd fi se te re fa (k_bl (m x_reader_bytes_) (m x_reader_ 1) sp) sp pa op cl sz) x_reader_ 6 t)
            have z : t = (k_en (m x_reader_bytes_) (m x_reader_ 1) (k_bl (m x_reader_bytes_) (m x_reader_ 1) sp)) := by
              rw [k_rn0 (p := k_sm) (fun q => by have z1 := k_smt.mp q.2; omega)] at he
              exact he
            subst z
            rw [q_m_fsp]
            exact hQ
          · refine And.intro (show -2147483648 ≤ t + 1 ∧ t + 1 < 2147483648 by omega) ?_
            show cw_R _ _ 118 [vr x_reader_, vi (t + 1), vi 1, vi 0] [] (q_m m co hd fi se te re fa (k_bl (m x_reader_bytes_) (m x_reader_ 1) sp) sp pa op cl sz) _
            refine ih (t + 1) (by omega) (by omega) ?_
            rw [← k_rn1 (p := k_sm) (by omega) (k_smt.mpr (by omega))]
            exact he
  have l158 : ∀ (r : Nat) (t : Int), m x_reader_ 1 < t + r → (0 ≤ t ∧ t ≤ m x_reader_ 1) → (k_rn (m x_reader_bytes_) (m x_reader_ 1) k_dg t = (k_en (m x_reader_bytes_) (m x_reader_ 1) (k_bl (m x_reader_bytes_) (m x_reader_ 1) sp))) → cw_R (d) k_Re_advance 158 [vr x_reader_, vi t, vi 0, vi 1] [] (q_m m co hd fi se te re fa (k_bl (m x_reader_bytes_) (m x_reader_ 1) sp) sp pa op cl sz) Q := by
    intro r
    induction r with
    | zero =>
      intro t hr ht he
      omega
    | succ r ih =>
      intro t hr ht he
      refine la_go_R hm 25 [158] ?_
      refine br_f (by decide) ?_
      refine And.intro (fun (c1 : m x_reader_ 1 ≤ t) => ?_) (fun (c1 : ¬ (m x_reader_ 1 ≤ t)) => ?_)
      · have hm2 : la_ok (cw_put (q_m m co hd fi se te re fa (k_bl (m x_reader_bytes_) (m x_reader_ 1) sp) sp pa op cl sz) x_reader_ 6 t) := la_put hm (by decide) (Or.inl rfl)
        show Q none (cw_put (q_m m co hd fi se te re fa (k_bl (m x_reader_bytes_) (m x_reader_ 1) sp) sp pa op cl sz) x_reader_ 6 t)
        have z : t = (k_en (m x_reader_bytes_) (m x_reader_ 1) (k_bl (m x_reader_bytes_) (m x_reader_ 1) sp)) := by
          rw [k_rn0 (p := k_dg) (fun q => by have z1 := k_dgt.mp q.2; omega)] at he
          exact he
        subst z
        rw [q_m_fsp]
        exact hQ
      · refine And.intro (show 0 ≤ t ∧ t < 400 by omega) ?_
        refine And.intro (fun (c3 : m x_reader_bytes_ t < 48) => ?_) (fun (c3 : ¬ (m x_reader_bytes_ t < 48)) => ?_)
        · have hm4 : la_ok (cw_put (q_m m co hd fi se te re fa (k_bl (m x_reader_bytes_) (m x_reader_ 1) sp) sp pa op cl sz) x_reader_ 6 t) := la_put hm (by decide) (Or.inl rfl)
          show Q none (cw_put (q_m m co hd fi se te re fa (k_bl (m x_reader_bytes_) (m x_reader_ 1) sp) sp pa op cl sz) x_reader_ 6 t)
          have z : t = (k_en (m x_reader_bytes_) (m x_reader_ 1) (k_bl (m x_reader_bytes_) (m x_reader_ 1) sp)) := by
            rw [k_rn0 (p := k_dg) (fun q => by have z1 := k_dgt.mp q.2; omega)] at he
            exact he
          subst z
          rw [q_m_fsp]
          exact hQ
        · refine And.intro (show 0 ≤ t ∧ t < 400 by omega) ?_
          refine And.intro (fun (c5 : 57 < m x_reader_bytes_ t) => ?_) (fun (c5 : ¬ (57 < m x_reader_bytes_ t)) => ?_)
          · have hm6 : la_ok (cw_put (q_m m co hd fi se te re fa (k_bl (m x_reader_bytes_) (m x_reader_ 1) sp) sp pa op cl sz) x_reader_ 6 t) := la_put hm (by decide) (Or.inl rfl)
            show Q none (cw_put (q_m m co hd fi se te re fa (k_bl (m x_reader_bytes_) (m x_reader_ 1) sp) sp pa op cl sz) x_reader_ 6 t)
            have z : t = (k_en (m x_reader_bytes_) (m x_reader_ 1) (k_bl (m x_reader_bytes_) (m x_reader_ 1) sp)) := by
              rw [k_rn0 (p := k_dg) (fun q => by have z1 := k_dgt.mp q.2; omega)] at he
              exact he
            subst z
            rw [q_m_fsp]
            exact hQ
          · refine And.intro (show -2147483648 ≤ t + 1 ∧ t + 1 < 2147483648 by omega) ?_
            show cw_R _ _ 158 [vr x_reader_, vi (t + 1), vi 0, vi 1] [] (q_m m co hd fi se te re fa (k_bl (m x_reader_bytes_) (m x_reader_ 1) sp) sp pa op cl sz) _
            refine ih (t + 1) (by omega) (by omega) ?_
            rw [← k_rn1 (p := k_dg) (by omega) (k_dgt.mpr (by omega))]
            exact he
  have a01 : ∀ t, (0 ≤ t ∧ t ≤ m x_reader_ 1) → k_rn (m x_reader_bytes_) (m x_reader_ 1) k_dg t = (k_en (m x_reader_bytes_) (m x_reader_ 1) (k_bl (m x_reader_bytes_) (m x_reader_ 1) sp)) → cw_R d k_Re_advance 118 [vr x_reader_, vi t, vi 0, vi 1] [] (q_m m co hd fi se te re fa (k_bl (m x_reader_bytes_) (m x_reader_ 1) sp) sp pa op cl sz) Q := by
    intro t ht he
    refine la_go_R hm 5 [158] ?_
    refine br_t (by decide) ?_
    show cw_R _ _ 158 [vr x_reader_, vi t, vi 0, vi 1] [] (q_m m co hd fi se te re fa (k_bl (m x_reader_bytes_) (m x_reader_ 1) sp) sp pa op cl sz) _
    exact l158 (m x_reader_ 1 + 1 - t).toNat t (by omega) ht he
  have a00 : ∀ t, t = (k_en (m x_reader_bytes_) (m x_reader_ 1) (k_bl (m x_reader_bytes_) (m x_reader_ 1) sp)) → cw_R d k_Re_advance 118 [vr x_reader_, vi t, vi 0, vi 0] [] (q_m m co hd fi se te re fa (k_bl (m x_reader_bytes_) (m x_reader_ 1) sp) sp pa op cl sz) Q := by
    intro t he
    refine la_go_R hm 11 [] ?_
    refine br_t (by decide) ?_
    refine br_t (by decide) ?_
    have hm1 : la_ok (cw_put (q_m m co hd fi se te re fa (k_bl (m x_reader_bytes_) (m x_reader_ 1) sp) sp pa op cl sz) x_reader_ 6 t) := la_put hm (by decide) (Or.inl rfl)
    show Q none (cw_put (q_m m co hd fi se te re fa (k_bl (m x_reader_bytes_) (m x_reader_ 1) sp) sp pa op cl sz) x_reader_ 6 t)
    subst he
    rw [q_m_fsp]
    exact hQ
  have hm : la_ok (q_m m co hd fi se te re fa st sp pa op cl sz) := q_m_ok hm0
  have l5 : ∀ (r : Nat) (t : Int), m x_reader_ 1 < t + r → (0 ≤ t ∧ t ≤ m x_reader_ 1) → (k_bl (m x_reader_bytes_) (m x_reader_ 1) t = (k_bl (m x_reader_bytes_) (m x_reader_ 1) sp)) → cw_R (d) k_Re_advance 5 [vr x_reader_, vi t, none, none] [] (q_m m co hd fi se te re fa st sp pa op cl sz) Q := by
    intro r
    induction r with
    | zero =>
      intro t hr ht he
      omega
    | succ r ih =>
      intro t hr ht he
      refine la_go_R hm 59 [5, 118] ?_
      refine And.intro (fun (c1 : m x_reader_ 1 ≤ t) => ?_) (fun (c1 : ¬ (m x_reader_ 1 ≤ t)) => ?_)
      · have hm2 : la_ok (cw_put (q_m m co hd fi se te re fa st sp pa op cl sz) x_reader_ 5 t) := la_put hm (by decide) (Or.inl rfl)
        refine And.intro (fun (c3 : m x_reader_ 1 ≤ t) => ?_) (fun (c3 : ¬ (m x_reader_ 1 ≤ t)) => ?_)
        · refine And.intro (fun (c4 : m x_reader_ 1 ≤ t) => ?_) (fun (c4 : ¬ (m x_reader_ 1 ≤ t)) => ?_)
          · refine And.intro (fun (c5 : m x_reader_ 1 ≤ t) => ?_) (fun (c5 : ¬ (m x_reader_ 1 ≤ t)) => ?_)
            · show cw_R _ _ 118 [vr x_reader_, vi t, vi 0, vi 0] [] (cw_put (q_m m co hd fi se te re fa st sp pa op cl sz) x_reader_ 5 t) _
              have z : t = (k_bl (m x_reader_bytes_) (m x_reader_ 1) sp) := by
                rw [← he]; unfold k_bl; rw [k_rn0 (p := k_sp) (fun q => by have z1 := k_spt.mp q.2; omega)]
              refine la_go_R0 (m' := q_m m co hd fi se te re fa (k_bl (m x_reader_bytes_) (m x_reader_ 1) sp) sp pa op cl sz) (by rw [q_m_fst, z]) ?_
              exact a00 t (by rw [← z]; unfold k_en; rw [if_neg (by omega)])
            · refine And.intro (show -2147483648 ≤ t + 1 ∧ t + 1 < 2147483648 by omega) ?_
              show cw_R _ _ 118 [vr x_reader_, vi (t + 1), vi 0, vi 0] [] (cw_put (q_m m co hd fi se te re fa st sp pa op cl sz) x_reader_ 5 t) _
              have z : t = (k_bl (m x_reader_bytes_) (m x_reader_ 1) sp) := by
                rw [← he]; unfold k_bl; rw [k_rn0 (p := k_sp) (fun q => by have z1 := k_spt.mp q.2; omega)]
              refine la_go_R0 (m' := q_m m co hd fi se te re fa (k_bl (m x_reader_bytes_) (m x_reader_ 1) sp) sp pa op cl sz) (by rw [q_m_fst, z]) ?_
              exact a00 (t + 1) (by rw [← z]; unfold k_en k_end; rw [if_pos (by omega), if_neg (fun q => by have := k_smt.mp q; omega), if_neg (fun q => by have := k_dgt.mp q; omega)])
          · refine And.intro (show 0 ≤ t ∧ t < 400 by omega) ?_
            refine And.intro (fun (c6 : m x_reader_bytes_ t < 48) => ?_) (fun (c6 : ¬ (m x_reader_bytes_ t < 48)) => ?_)
            · refine And.intro (fun (c7 : m x_reader_ 1 ≤ t) => ?_) (fun (c7 : ¬ (m x_reader_ 1 ≤ t)) => ?_)
              · show cw_R _ _ 118 [vr x_reader_, vi t, vi 0, vi 0] [] (cw_put (q_m m co hd fi se te re fa st sp pa op cl sz) x_reader_ 5 t) _
                have z : t = (k_bl (m x_reader_bytes_) (m x_reader_ 1) sp) := by
                  rw [← he]; unfold k_bl; rw [k_rn0 (p := k_sp) (fun q => by have z1 := k_spt.mp q.2; omega)]
                refine la_go_R0 (m' := q_m m co hd fi se te re fa (k_bl (m x_reader_bytes_) (m x_reader_ 1) sp) sp pa op cl sz) (by rw [q_m_fst, z]) ?_
                exact a00 t (by rw [← z]; unfold k_en; rw [if_neg (by omega)])
              · refine And.intro (show -2147483648 ≤ t + 1 ∧ t + 1 < 2147483648 by omega) ?_
                show cw_R _ _ 118 [vr x_reader_, vi (t + 1), vi 0, vi 0] [] (cw_put (q_m m co hd fi se te re fa st sp pa op cl sz) x_reader_ 5 t) _
                have z : t = (k_bl (m x_reader_bytes_) (m x_reader_ 1) sp) := by
                  rw [← he]; unfold k_bl; rw [k_rn0 (p := k_sp) (fun q => by have z1 := k_spt.mp q.2; omega)]
                refine la_go_R0 (m' := q_m m co hd fi se te re fa (k_bl (m x_reader_bytes_) (m x_reader_ 1) sp) sp pa op cl sz) (by rw [q_m_fst, z]) ?_
                exact a00 (t + 1) (by rw [← z]; unfold k_en k_end; rw [if_pos (by omega), if_neg (fun q => by have := k_smt.mp q; omega), if_neg (fun q => by have := k_dgt.mp q; omega)])
            · refine And.intro (show 0 ≤ t ∧ t < 400 by omega) ?_
              refine And.intro (fun (c8 : 57 < m x_reader_bytes_ t) => ?_) (fun (c8 : ¬ (57 < m x_reader_bytes_ t)) => ?_)
              · refine And.intro (fun (c9 : m x_reader_ 1 ≤ t) => ?_) (fun (c9 : ¬ (m x_reader_ 1 ≤ t)) => ?_)
                · show cw_R _ _ 118 [vr x_reader_, vi t, vi 0, vi 0] [] (cw_put (q_m m co hd fi se te re fa st sp pa op cl sz) x_reader_ 5 t) _
                  have z : t = (k_bl (m x_reader_bytes_) (m x_reader_ 1) sp) := by
                    rw [← he]; unfold k_bl; rw [k_rn0 (p := k_sp) (fun q => by have z1 := k_spt.mp q.2; omega)]
                  refine la_go_R0 (m' := q_m m co hd fi se te re fa (k_bl (m x_reader_bytes_) (m x_reader_ 1) sp) sp pa op cl sz) (by rw [q_m_fst, z]) ?_
                  exact a00 t (by rw [← z]; unfold k_en; rw [if_neg (by omega)])
                · refine And.intro (show -2147483648 ≤ t + 1 ∧ t + 1 < 2147483648 by omega) ?_
                  show cw_R _ _ 118 [vr x_reader_, vi (t + 1), vi 0, vi 0] [] (cw_put (q_m m co hd fi se te re fa st sp pa op cl sz) x_reader_ 5 t) _
                  have z : t = (k_bl (m x_reader_bytes_) (m x_reader_ 1) sp) := by
                    rw [← he]; unfold k_bl; rw [k_rn0 (p := k_sp) (fun q => by have z1 := k_spt.mp q.2; omega)]
                  refine la_go_R0 (m' := q_m m co hd fi se te re fa (k_bl (m x_reader_bytes_) (m x_reader_ 1) sp) sp pa op cl sz) (by rw [q_m_fst, z]) ?_
                  exact a00 (t + 1) (by rw [← z]; unfold k_en k_end; rw [if_pos (by omega), if_neg (fun q => by have := k_smt.mp q; omega), if_neg (fun q => by have := k_dgt.mp q; omega)])
              · refine And.intro (fun (c10 : m x_reader_ 1 ≤ t) => ?_) (fun (c10 : ¬ (m x_reader_ 1 ≤ t)) => ?_)
                · show cw_R _ _ 118 [vr x_reader_, vi t, vi 0, vi 1] [] (cw_put (q_m m co hd fi se te re fa st sp pa op cl sz) x_reader_ 5 t) _
                  exfalso
                  omega
                · refine And.intro (show -2147483648 ≤ t + 1 ∧ t + 1 < 2147483648 by omega) ?_
                  show cw_R _ _ 118 [vr x_reader_, vi (t + 1), vi 0, vi 1] [] (cw_put (q_m m co hd fi se te re fa st sp pa op cl sz) x_reader_ 5 t) _
                  have z : t = (k_bl (m x_reader_bytes_) (m x_reader_ 1) sp) := by
                    rw [← he]; unfold k_bl; rw [k_rn0 (p := k_sp) (fun q => by have z1 := k_spt.mp q.2; omega)]
                  refine la_go_R0 (m' := q_m m co hd fi se te re fa (k_bl (m x_reader_bytes_) (m x_reader_ 1) sp) sp pa op cl sz) (by rw [q_m_fst, z]) ?_
                  exact a01 (t + 1) (by omega) (by rw [← z]; unfold k_en k_end; rw [if_pos (by omega), if_neg (fun q => by have := k_smt.mp q; omega), if_pos (k_dgt.mpr (by omega))])
        · refine And.intro (show 0 ≤ t ∧ t < 400 by omega) ?_
          refine And.intro (fun (c11 : m x_reader_bytes_ t < 97) => ?_) (fun (c11 : ¬ (m x_reader_bytes_ t < 97)) => ?_)
          · refine And.intro (fun (c12 : m x_reader_ 1 ≤ t) => ?_) (fun (c12 : ¬ (m x_reader_ 1 ≤ t)) => ?_)
            · refine And.intro (fun (c13 : m x_reader_ 1 ≤ t) => ?_) (fun (c13 : ¬ (m x_reader_ 1 ≤ t)) => ?_)
              · show cw_R _ _ 118 [vr x_reader_, vi t, vi 0, vi 0] [] (cw_put (q_m m co hd fi se te re fa st sp pa op cl sz) x_reader_ 5 t) _
                have z : t = (k_bl (m x_reader_bytes_) (m x_reader_ 1) sp) := by
                  rw [← he]; unfold k_bl; rw [k_rn0 (p := k_sp) (fun q => by have z1 := k_spt.mp q.2; omega)]
                refine la_go_R0 (m' := q_m m co hd fi se te re fa (k_bl (m x_reader_bytes_) (m x_reader_ 1) sp) sp pa op cl sz) (by rw [q_m_fst, z]) ?_
                exact a00 t (by rw [← z]; unfold k_en; rw [if_neg (by omega)])
              · refine And.intro (show -2147483648 ≤ t + 1 ∧ t + 1 < 2147483648 by omega) ?_
                show cw_R _ _ 118 [vr x_reader_, vi (t + 1), vi 0, vi 0] [] (cw_put (q_m m co hd fi se te re fa st sp pa op cl sz) x_reader_ 5 t) _
                have z : t = (k_bl (m x_reader_bytes_) (m x_reader_ 1) sp) := by
                  rw [← he]; unfold k_bl; rw [k_rn0 (p := k_sp) (fun q => by have z1 := k_spt.mp q.2; omega)]
                refine la_go_R0 (m' := q_m m co hd fi se te re fa (k_bl (m x_reader_bytes_) (m x_reader_ 1) sp) sp pa op cl sz) (by rw [q_m_fst, z]) ?_
                exact a00 (t + 1) (by rw [← z]; unfold k_en k_end; rw [if_pos (by omega), if_neg (fun q => by have := k_smt.mp q; omega), if_neg (fun q => by have := k_dgt.mp q; omega)])
            · refine And.intro (show 0 ≤ t ∧ t < 400 by omega) ?_
              refine And.intro (fun (c14 : m x_reader_bytes_ t < 48) => ?_) (fun (c14 : ¬ (m x_reader_bytes_ t < 48)) => ?_)
              · refine And.intro (fun (c15 : m x_reader_ 1 ≤ t) => ?_) (fun (c15 : ¬ (m x_reader_ 1 ≤ t)) => ?_)
                · show cw_R _ _ 118 [vr x_reader_, vi t, vi 0, vi 0] [] (cw_put (q_m m co hd fi se te re fa st sp pa op cl sz) x_reader_ 5 t) _
                  have z : t = (k_bl (m x_reader_bytes_) (m x_reader_ 1) sp) := by
                    rw [← he]; unfold k_bl; rw [k_rn0 (p := k_sp) (fun q => by have z1 := k_spt.mp q.2; omega)]
                  refine la_go_R0 (m' := q_m m co hd fi se te re fa (k_bl (m x_reader_bytes_) (m x_reader_ 1) sp) sp pa op cl sz) (by rw [q_m_fst, z]) ?_
                  exact a00 t (by rw [← z]; unfold k_en; rw [if_neg (by omega)])
                · refine And.intro (show -2147483648 ≤ t + 1 ∧ t + 1 < 2147483648 by omega) ?_
                  show cw_R _ _ 118 [vr x_reader_, vi (t + 1), vi 0, vi 0] [] (cw_put (q_m m co hd fi se te re fa st sp pa op cl sz) x_reader_ 5 t) _
                  have z : t = (k_bl (m x_reader_bytes_) (m x_reader_ 1) sp) := by
                    rw [← he]; unfold k_bl; rw [k_rn0 (p := k_sp) (fun q => by have z1 := k_spt.mp q.2; omega)]
                  refine la_go_R0 (m' := q_m m co hd fi se te re fa (k_bl (m x_reader_bytes_) (m x_reader_ 1) sp) sp pa op cl sz) (by rw [q_m_fst, z]) ?_
                  exact a00 (t + 1) (by rw [← z]; unfold k_en k_end; rw [if_pos (by omega), if_neg (fun q => by have := k_smt.mp q; omega), if_neg (fun q => by have := k_dgt.mp q; omega)])
              · refine And.intro (show 0 ≤ t ∧ t < 400 by omega) ?_
                refine And.intro (fun (c16 : 57 < m x_reader_bytes_ t) => ?_) (fun (c16 : ¬ (57 < m x_reader_bytes_ t)) => ?_)
                · refine And.intro (fun (c17 : m x_reader_ 1 ≤ t) => ?_) (fun (c17 : ¬ (m x_reader_ 1 ≤ t)) => ?_)
                  · show cw_R _ _ 118 [vr x_reader_, vi t, vi 0, vi 0] [] (cw_put (q_m m co hd fi se te re fa st sp pa op cl sz) x_reader_ 5 t) _
                    have z : t = (k_bl (m x_reader_bytes_) (m x_reader_ 1) sp) := by
                      rw [← he]; unfold k_bl; rw [k_rn0 (p := k_sp) (fun q => by have z1 := k_spt.mp q.2; omega)]
                    refine la_go_R0 (m' := q_m m co hd fi se te re fa (k_bl (m x_reader_bytes_) (m x_reader_ 1) sp) sp pa op cl sz) (by rw [q_m_fst, z]) ?_
                    exact a00 t (by rw [← z]; unfold k_en; rw [if_neg (by omega)])
                  · refine And.intro (show -2147483648 ≤ t + 1 ∧ t + 1 < 2147483648 by omega) ?_
                    show cw_R _ _ 118 [vr x_reader_, vi (t + 1), vi 0, vi 0] [] (cw_put (q_m m co hd fi se te re fa st sp pa op cl sz) x_reader_ 5 t) _
                    have z : t = (k_bl (m x_reader_bytes_) (m x_reader_ 1) sp) := by
                      rw [← he]; unfold k_bl; rw [k_rn0 (p := k_sp) (fun q => by have z1 := k_spt.mp q.2; omega)]
                    refine la_go_R0 (m' := q_m m co hd fi se te re fa (k_bl (m x_reader_bytes_) (m x_reader_ 1) sp) sp pa op cl sz) (by rw [q_m_fst, z]) ?_
                    exact a00 (t + 1) (by rw [← z]; unfold k_en k_end; rw [if_pos (by omega), if_neg (fun q => by have := k_smt.mp q; omega), if_neg (fun q => by have := k_dgt.mp q; omega)])
                · refine And.intro (fun (c18 : m x_reader_ 1 ≤ t) => ?_) (fun (c18 : ¬ (m x_reader_ 1 ≤ t)) => ?_)
                  · show cw_R _ _ 118 [vr x_reader_, vi t, vi 0, vi 1] [] (cw_put (q_m m co hd fi se te re fa st sp pa op cl sz) x_reader_ 5 t) _
                    exfalso
                    omega
                  · refine And.intro (show -2147483648 ≤ t + 1 ∧ t + 1 < 2147483648 by omega) ?_
                    show cw_R _ _ 118 [vr x_reader_, vi (t + 1), vi 0, vi 1] [] (cw_put (q_m m co hd fi se te re fa st sp pa op cl sz) x_reader_ 5 t) _
                    have z : t = (k_bl (m x_reader_bytes_) (m x_reader_ 1) sp) := by
                      rw [← he]; unfold k_bl; rw [k_rn0 (p := k_sp) (fun q => by have z1 := k_spt.mp q.2; omega)]
                    refine la_go_R0 (m' := q_m m co hd fi se te re fa (k_bl (m x_reader_bytes_) (m x_reader_ 1) sp) sp pa op cl sz) (by rw [q_m_fst, z]) ?_
                    exact a01 (t + 1) (by omega) (by rw [← z]; unfold k_en k_end; rw [if_pos (by omega), if_neg (fun q => by have := k_smt.mp q; omega), if_pos (k_dgt.mpr (by omega))])
          · refine And.intro (show 0 ≤ t ∧ t < 400 by omega) ?_
            refine And.intro (fun (c19 : 122 < m x_reader_bytes_ t) => ?_) (fun (c19 : ¬ (122 < m x_reader_bytes_ t)) => ?_)
            · refine And.intro (fun (c20 : m x_reader_ 1 ≤ t) => ?_) (fun (c20 : ¬ (m x_reader_ 1 ≤ t)) => ?_)
              · refine And.intro (fun (c21 : m x_reader_ 1 ≤ t) => ?_) (fun (c21 : ¬ (m x_reader_ 1 ≤ t)) => ?_)
                · show cw_R _ _ 118 [vr x_reader_, vi t, vi 0, vi 0] [] (cw_put (q_m m co hd fi se te re fa st sp pa op cl sz) x_reader_ 5 t) _
                  have z : t = (k_bl (m x_reader_bytes_) (m x_reader_ 1) sp) := by
                    rw [← he]; unfold k_bl; rw [k_rn0 (p := k_sp) (fun q => by have z1 := k_spt.mp q.2; omega)]
                  refine la_go_R0 (m' := q_m m co hd fi se te re fa (k_bl (m x_reader_bytes_) (m x_reader_ 1) sp) sp pa op cl sz) (by rw [q_m_fst, z]) ?_
                  exact a00 t (by rw [← z]; unfold k_en; rw [if_neg (by omega)])
                · refine And.intro (show -2147483648 ≤ t + 1 ∧ t + 1 < 2147483648 by omega) ?_
                  show cw_R _ _ 118 [vr x_reader_, vi (t + 1), vi 0, vi 0] [] (cw_put (q_m m co hd fi se te re fa st sp pa op cl sz) x_reader_ 5 t) _
                  have z : t = (k_bl (m x_reader_bytes_) (m x_reader_ 1) sp) := by
                    rw [← he]; unfold k_bl; rw [k_rn0 (p := k_sp) (fun q => by have z1 := k_spt.mp q.2; omega)]
                  refine la_go_R0 (m' := q_m m co hd fi se te re fa (k_bl (m x_reader_bytes_) (m x_reader_ 1) sp) sp pa op cl sz) (by rw [q_m_fst, z]) ?_
                  exact a00 (t + 1) (by rw [← z]; unfold k_en k_end; rw [if_pos (by omega), if_neg (fun q => by have := k_smt.mp q; omega), if_neg (fun q => by have := k_dgt.mp q; omega)])
              · refine And.intro (show 0 ≤ t ∧ t < 400 by omega) ?_
                refine And.intro (fun (c22 : m x_reader_bytes_ t < 48) => ?_) (fun (c22 : ¬ (m x_reader_bytes_ t < 48)) => ?_)
                · refine And.intro (fun (c23 : m x_reader_ 1 ≤ t) => ?_) (fun (c23 : ¬ (m x_reader_ 1 ≤ t)) => ?_)
                  · show cw_R _ _ 118 [vr x_reader_, vi t, vi 0, vi 0] [] (cw_put (q_m m co hd fi se te re fa st sp pa op cl sz) x_reader_ 5 t) _
                    have z : t = (k_bl (m x_reader_bytes_) (m x_reader_ 1) sp) := by
                      rw [← he]; unfold k_bl; rw [k_rn0 (p := k_sp) (fun q => by have z1 := k_spt.mp q.2; omega)]
                    refine la_go_R0 (m' := q_m m co hd fi se te re fa (k_bl (m x_reader_bytes_) (m x_reader_ 1) sp) sp pa op cl sz) (by rw [q_m_fst, z]) ?_
                    exact a00 t (by rw [← z]; unfold k_en; rw [if_neg (by omega)])
                  · refine And.intro (show -2147483648 ≤ t + 1 ∧ t + 1 < 2147483648 by omega) ?_
                    show cw_R _ _ 118 [vr x_reader_, vi (t + 1), vi 0, vi 0] [] (cw_put (q_m m co hd fi se te re fa st sp pa op cl sz) x_reader_ 5 t) _
                    have z : t = (k_bl (m x_reader_bytes_) (m x_reader_ 1) sp) := by
                      rw [← he]; unfold k_bl; rw [k_rn0 (p := k_sp) (fun q => by have z1 := k_spt.mp q.2; omega)]
                    refine la_go_R0 (m' := q_m m co hd fi se te re fa (k_bl (m x_reader_bytes_) (m x_reader_ 1) sp) sp pa op cl sz) (by rw [q_m_fst, z]) ?_
                    exact a00 (t + 1) (by rw [← z]; unfold k_en k_end; rw [if_pos (by omega), if_neg (fun q => by have := k_smt.mp q; omega), if_neg (fun q => by have := k_dgt.mp q; omega)])
                · refine And.intro (show 0 ≤ t ∧ t < 400 by omega) ?_
                  refine And.intro (fun (c24 : 57 < m x_reader_bytes_ t) => ?_) (fun (c24 : ¬ (57 < m x_reader_bytes_ t)) => ?_)
                  · refine And.intro (fun (c25 : m x_reader_ 1 ≤ t) => ?_) (fun (c25 : ¬ (m x_reader_ 1 ≤ t)) => ?_)
                    · show cw_R _ _ 118 [vr x_reader_, vi t, vi 0, vi 0] [] (cw_put (q_m m co hd fi se te re fa st sp pa op cl sz) x_reader_ 5 t) _
                      have z : t = (k_bl (m x_reader_bytes_) (m x_reader_ 1) sp) := by
                        rw [← he]; unfold k_bl; rw [k_rn0 (p := k_sp) (fun q => by have z1 := k_spt.mp q.2; omega)]
                      refine la_go_R0 (m' := q_m m co hd fi se te re fa (k_bl (m x_reader_bytes_) (m x_reader_ 1) sp) sp pa op cl sz) (by rw [q_m_fst, z]) ?_
                      exact a00 t (by rw [← z]; unfold k_en; rw [if_neg (by omega)])
                    · refine And.intro (show -2147483648 ≤ t + 1 ∧ t + 1 < 2147483648 by omega) ?_
                      show cw_R _ _ 118 [vr x_reader_, vi (t + 1), vi 0, vi 0] [] (cw_put (q_m m co hd fi se te re fa st sp pa op cl sz) x_reader_ 5 t) _
                      have z : t = (k_bl (m x_reader_bytes_) (m x_reader_ 1) sp) := by
                        rw [← he]; unfold k_bl; rw [k_rn0 (p := k_sp) (fun q => by have z1 := k_spt.mp q.2; omega)]
                      refine la_go_R0 (m' := q_m m co hd fi se te re fa (k_bl (m x_reader_bytes_) (m x_reader_ 1) sp) sp pa op cl sz) (by rw [q_m_fst, z]) ?_
                      exact a00 (t + 1) (by rw [← z]; unfold k_en k_end; rw [if_pos (by omega), if_neg (fun q => by have := k_smt.mp q; omega), if_neg (fun q => by have := k_dgt.mp q; omega)])
                  · refine And.intro (fun (c26 : m x_reader_ 1 ≤ t) => ?_) (fun (c26 : ¬ (m x_reader_ 1 ≤ t)) => ?_)
                    · show cw_R _ _ 118 [vr x_reader_, vi t, vi 0, vi 1] [] (cw_put (q_m m co hd fi se te re fa st sp pa op cl sz) x_reader_ 5 t) _
                      exfalso
                      omega
                    · refine And.intro (show -2147483648 ≤ t + 1 ∧ t + 1 < 2147483648 by omega) ?_
                      show cw_R _ _ 118 [vr x_reader_, vi (t + 1), vi 0, vi 1] [] (cw_put (q_m m co hd fi se te re fa st sp pa op cl sz) x_reader_ 5 t) _
                      have z : t = (k_bl (m x_reader_bytes_) (m x_reader_ 1) sp) := by
                        rw [← he]; unfold k_bl; rw [k_rn0 (p := k_sp) (fun q => by have z1 := k_spt.mp q.2; omega)]
                      refine la_go_R0 (m' := q_m m co hd fi se te re fa (k_bl (m x_reader_bytes_) (m x_reader_ 1) sp) sp pa op cl sz) (by rw [q_m_fst, z]) ?_
                      exact a01 (t + 1) (by omega) (by rw [← z]; unfold k_en k_end; rw [if_pos (by omega), if_neg (fun q => by have := k_smt.mp q; omega), if_pos (k_dgt.mpr (by omega))])
            · refine And.intro (fun (c27 : m x_reader_ 1 ≤ t) => ?_) (fun (c27 : ¬ (m x_reader_ 1 ≤ t)) => ?_)
              · refine And.intro (fun (c28 : m x_reader_ 1 ≤ t) => ?_) (fun (c28 : ¬ (m x_reader_ 1 ≤ t)) => ?_)
                · show cw_R _ _ 118 [vr x_reader_, vi t, vi 1, vi 0] [] (cw_put (q_m m co hd fi se te re fa st sp pa op cl sz) x_reader_ 5 t) _
                  exfalso
                  omega
                · refine And.intro (show -2147483648 ≤ t + 1 ∧ t + 1 < 2147483648 by omega) ?_
                  show cw_R _ _ 118 [vr x_reader_, vi (t + 1), vi 1, vi 0] [] (cw_put (q_m m co hd fi se te re fa st sp pa op cl sz) x_reader_ 5 t) _
                  have z : t = (k_bl (m x_reader_bytes_) (m x_reader_ 1) sp) := by
                    rw [← he]; unfold k_bl; rw [k_rn0 (p := k_sp) (fun q => by have z1 := k_spt.mp q.2; omega)]
                  refine la_go_R0 (m' := q_m m co hd fi se te re fa (k_bl (m x_reader_bytes_) (m x_reader_ 1) sp) sp pa op cl sz) (by rw [q_m_fst, z]) ?_
                  exact l118 (m x_reader_ 1 + 1 - t).toNat (t + 1) (by omega) (by omega) (by rw [← z]; unfold k_en k_end; rw [if_pos (by omega), if_pos (k_smt.mpr (by omega))])
              · refine And.intro (show 0 ≤ t ∧ t < 400 by omega) ?_
                refine And.intro (fun (c29 : m x_reader_bytes_ t < 48) => ?_) (fun (c29 : ¬ (m x_reader_bytes_ t < 48)) => ?_)
                · refine And.intro (fun (c30 : m x_reader_ 1 ≤ t) => ?_) (fun (c30 : ¬ (m x_reader_ 1 ≤ t)) => ?_)
                  · show cw_R _ _ 118 [vr x_reader_, vi t, vi 1, vi 0] [] (cw_put (q_m m co hd fi se te re fa st sp pa op cl sz) x_reader_ 5 t) _
                    exfalso
                    omega
                  · refine And.intro (show -2147483648 ≤ t + 1 ∧ t + 1 < 2147483648 by omega) ?_
                    show cw_R _ _ 118 [vr x_reader_, vi (t + 1), vi 1, vi 0] [] (cw_put (q_m m co hd fi se te re fa st sp pa op cl sz) x_reader_ 5 t) _
                    have z : t = (k_bl (m x_reader_bytes_) (m x_reader_ 1) sp) := by
                      rw [← he]; unfold k_bl; rw [k_rn0 (p := k_sp) (fun q => by have z1 := k_spt.mp q.2; omega)]
                    refine la_go_R0 (m' := q_m m co hd fi se te re fa (k_bl (m x_reader_bytes_) (m x_reader_ 1) sp) sp pa op cl sz) (by rw [q_m_fst, z]) ?_
                    exact l118 (m x_reader_ 1 + 1 - t).toNat (t + 1) (by omega) (by omega) (by rw [← z]; unfold k_en k_end; rw [if_pos (by omega), if_pos (k_smt.mpr (by omega))])
                · refine And.intro (show 0 ≤ t ∧ t < 400 by omega) ?_
                  refine And.intro (fun (c31 : 57 < m x_reader_bytes_ t) => ?_) (fun (c31 : ¬ (57 < m x_reader_bytes_ t)) => ?_)
                  · refine And.intro (fun (c32 : m x_reader_ 1 ≤ t) => ?_) (fun (c32 : ¬ (m x_reader_ 1 ≤ t)) => ?_)
                    · show cw_R _ _ 118 [vr x_reader_, vi t, vi 1, vi 0] [] (cw_put (q_m m co hd fi se te re fa st sp pa op cl sz) x_reader_ 5 t) _
                      exfalso
                      omega
                    · refine And.intro (show -2147483648 ≤ t + 1 ∧ t + 1 < 2147483648 by omega) ?_
                      show cw_R _ _ 118 [vr x_reader_, vi (t + 1), vi 1, vi 0] [] (cw_put (q_m m co hd fi se te re fa st sp pa op cl sz) x_reader_ 5 t) _
                      have z : t = (k_bl (m x_reader_bytes_) (m x_reader_ 1) sp) := by
                        rw [← he]; unfold k_bl; rw [k_rn0 (p := k_sp) (fun q => by have z1 := k_spt.mp q.2; omega)]
                      refine la_go_R0 (m' := q_m m co hd fi se te re fa (k_bl (m x_reader_bytes_) (m x_reader_ 1) sp) sp pa op cl sz) (by rw [q_m_fst, z]) ?_
                      exact l118 (m x_reader_ 1 + 1 - t).toNat (t + 1) (by omega) (by omega) (by rw [← z]; unfold k_en k_end; rw [if_pos (by omega), if_pos (k_smt.mpr (by omega))])
                  · refine And.intro (fun (c33 : m x_reader_ 1 ≤ t) => ?_) (fun (c33 : ¬ (m x_reader_ 1 ≤ t)) => ?_)
                    · show cw_R _ _ 118 [vr x_reader_, vi t, vi 1, vi 1] [] (cw_put (q_m m co hd fi se te re fa st sp pa op cl sz) x_reader_ 5 t) _
                      exfalso
                      omega
                    · refine And.intro (show -2147483648 ≤ t + 1 ∧ t + 1 < 2147483648 by omega) ?_
                      show cw_R _ _ 118 [vr x_reader_, vi (t + 1), vi 1, vi 1] [] (cw_put (q_m m co hd fi se te re fa st sp pa op cl sz) x_reader_ 5 t) _
                      exfalso
                      omega
      · refine And.intro (show 0 ≤ t ∧ t < 400 by omega) ?_
        refine And.intro (fun (c34 : m x_reader_bytes_ t ≠ 32) => ?_) (fun (c34 : ¬ (m x_reader_bytes_ t ≠ 32)) => ?_)
        · have hm35 : la_ok (cw_put (q_m m co hd fi se te re fa st sp pa op cl sz) x_reader_ 5 t) := la_put hm (by decide) (Or.inl rfl)
          refine And.intro (fun (c36 : m x_reader_ 1 ≤ t) => ?_) (fun (c36 : ¬ (m x_reader_ 1 ≤ t)) => ?_)
          · refine And.intro (fun (c37 : m x_reader_ 1 ≤ t) => ?_) (fun (c37 : ¬ (m x_reader_ 1 ≤ t)) => ?_)
            · refine And.intro (fun (c38 : m x_reader_ 1 ≤ t) => ?_) (fun (c38 : ¬ (m x_reader_ 1 ≤ t)) => ?_)
              · show cw_R _ _ 118 [vr x_reader_, vi t, vi 0, vi 0] [] (cw_put (q_m m co hd fi se te re fa st sp pa op cl sz) x_reader_ 5 t) _
                have z : t = (k_bl (m x_reader_bytes_) (m x_reader_ 1) sp) := by
                  rw [← he]; unfold k_bl; rw [k_rn0 (p := k_sp) (fun q => by have z1 := k_spt.mp q.2; omega)]
                refine la_go_R0 (m' := q_m m co hd fi se te re fa (k_bl (m x_reader_bytes_) (m x_reader_ 1) sp) sp pa op cl sz) (by rw [q_m_fst, z]) ?_
                exact a00 t (by rw [← z]; unfold k_en; rw [if_neg (by omega)])
              · refine And.intro (show -2147483648 ≤ t + 1 ∧ t + 1 < 2147483648 by omega) ?_
                show cw_R _ _ 118 [vr x_reader_, vi (t + 1), vi 0, vi 0] [] (cw_put (q_m m co hd fi se te re fa st sp pa op cl sz) x_reader_ 5 t) _
                have z : t = (k_bl (m x_reader_bytes_) (m x_reader_ 1) sp) := by
                  rw [← he]; unfold k_bl; rw [k_rn0 (p := k_sp) (fun q => by have z1 := k_spt.mp q.2; omega)]
                refine la_go_R0 (m' := q_m m co hd fi se te re fa (k_bl (m x_reader_bytes_) (m x_reader_ 1) sp) sp pa op cl sz) (by rw [q_m_fst, z]) ?_
                exact a00 (t + 1) (by rw [← z]; unfold k_en k_end; rw [if_pos (by omega), if_neg (fun q => by have := k_smt.mp q; omega), if_neg (fun q => by have := k_dgt.mp q; omega)])
            · refine And.intro (show 0 ≤ t ∧ t < 400 by omega) ?_
              refine And.intro (fun (c39 : m x_reader_bytes_ t < 48) => ?_) (fun (c39 : ¬ (m x_reader_bytes_ t < 48)) => ?_)
              · refine And.intro (fun (c40 : m x_reader_ 1 ≤ t) => ?_) (fun (c40 : ¬ (m x_reader_ 1 ≤ t)) => ?_)
                · show cw_R _ _ 118 [vr x_reader_, vi t, vi 0, vi 0] [] (cw_put (q_m m co hd fi se te re fa st sp pa op cl sz) x_reader_ 5 t) _
                  have z : t = (k_bl (m x_reader_bytes_) (m x_reader_ 1) sp) := by
                    rw [← he]; unfold k_bl; rw [k_rn0 (p := k_sp) (fun q => by have z1 := k_spt.mp q.2; omega)]
                  refine la_go_R0 (m' := q_m m co hd fi se te re fa (k_bl (m x_reader_bytes_) (m x_reader_ 1) sp) sp pa op cl sz) (by rw [q_m_fst, z]) ?_
                  exact a00 t (by rw [← z]; unfold k_en; rw [if_neg (by omega)])
                · refine And.intro (show -2147483648 ≤ t + 1 ∧ t + 1 < 2147483648 by omega) ?_
                  show cw_R _ _ 118 [vr x_reader_, vi (t + 1), vi 0, vi 0] [] (cw_put (q_m m co hd fi se te re fa st sp pa op cl sz) x_reader_ 5 t) _
                  have z : t = (k_bl (m x_reader_bytes_) (m x_reader_ 1) sp) := by
                    rw [← he]; unfold k_bl; rw [k_rn0 (p := k_sp) (fun q => by have z1 := k_spt.mp q.2; omega)]
                  refine la_go_R0 (m' := q_m m co hd fi se te re fa (k_bl (m x_reader_bytes_) (m x_reader_ 1) sp) sp pa op cl sz) (by rw [q_m_fst, z]) ?_
                  exact a00 (t + 1) (by rw [← z]; unfold k_en k_end; rw [if_pos (by omega), if_neg (fun q => by have := k_smt.mp q; omega), if_neg (fun q => by have := k_dgt.mp q; omega)])
              · refine And.intro (show 0 ≤ t ∧ t < 400 by omega) ?_
                refine And.intro (fun (c41 : 57 < m x_reader_bytes_ t) => ?_) (fun (c41 : ¬ (57 < m x_reader_bytes_ t)) => ?_)
                · refine And.intro (fun (c42 : m x_reader_ 1 ≤ t) => ?_) (fun (c42 : ¬ (m x_reader_ 1 ≤ t)) => ?_)
                  · show cw_R _ _ 118 [vr x_reader_, vi t, vi 0, vi 0] [] (cw_put (q_m m co hd fi se te re fa st sp pa op cl sz) x_reader_ 5 t) _
                    have z : t = (k_bl (m x_reader_bytes_) (m x_reader_ 1) sp) := by
                      rw [← he]; unfold k_bl; rw [k_rn0 (p := k_sp) (fun q => by have z1 := k_spt.mp q.2; omega)]
                    refine la_go_R0 (m' := q_m m co hd fi se te re fa (k_bl (m x_reader_bytes_) (m x_reader_ 1) sp) sp pa op cl sz) (by rw [q_m_fst, z]) ?_
                    exact a00 t (by rw [← z]; unfold k_en; rw [if_neg (by omega)])
                  · refine And.intro (show -2147483648 ≤ t + 1 ∧ t + 1 < 2147483648 by omega) ?_
                    show cw_R _ _ 118 [vr x_reader_, vi (t + 1), vi 0, vi 0] [] (cw_put (q_m m co hd fi se te re fa st sp pa op cl sz) x_reader_ 5 t) _
                    have z : t = (k_bl (m x_reader_bytes_) (m x_reader_ 1) sp) := by
                      rw [← he]; unfold k_bl; rw [k_rn0 (p := k_sp) (fun q => by have z1 := k_spt.mp q.2; omega)]
                    refine la_go_R0 (m' := q_m m co hd fi se te re fa (k_bl (m x_reader_bytes_) (m x_reader_ 1) sp) sp pa op cl sz) (by rw [q_m_fst, z]) ?_
                    exact a00 (t + 1) (by rw [← z]; unfold k_en k_end; rw [if_pos (by omega), if_neg (fun q => by have := k_smt.mp q; omega), if_neg (fun q => by have := k_dgt.mp q; omega)])
                · refine And.intro (fun (c43 : m x_reader_ 1 ≤ t) => ?_) (fun (c43 : ¬ (m x_reader_ 1 ≤ t)) => ?_)
                  · show cw_R _ _ 118 [vr x_reader_, vi t, vi 0, vi 1] [] (cw_put (q_m m co hd fi se te re fa st sp pa op cl sz) x_reader_ 5 t) _
                    exfalso
                    omega
                  · refine And.intro (show -2147483648 ≤ t + 1 ∧ t + 1 < 2147483648 by omega) ?_
                    show cw_R _ _ 118 [vr x_reader_, vi (t + 1), vi 0, vi 1] [] (cw_put (q_m m co hd fi se te re fa st sp pa op cl sz) x_reader_ 5 t) _
                    have z : t = (k_bl (m x_reader_bytes_) (m x_reader_ 1) sp) := by
                      rw [← he]; unfold k_bl; rw [k_rn0 (p := k_sp) (fun q => by have z1 := k_spt.mp q.2; omega)]
                    refine la_go_R0 (m' := q_m m co hd fi se te re fa (k_bl (m x_reader_bytes_) (m x_reader_ 1) sp) sp pa op cl sz) (by rw [q_m_fst, z]) ?_
                    exact a01 (t + 1) (by omega) (by rw [← z]; unfold k_en k_end; rw [if_pos (by omega), if_neg (fun q => by have := k_smt.mp q; omega), if_pos (k_dgt.mpr (by omega))])
          · refine And.intro (show 0 ≤ t ∧ t < 400 by omega) ?_
            refine And.intro (fun (c44 : m x_reader_bytes_ t < 97) => ?_) (fun (c44 : ¬ (m x_reader_bytes_ t < 97)) => ?_)
            · refine And.intro (fun (c45 : m x_reader_ 1 ≤ t) => ?_) (fun (c45 : ¬ (m x_reader_ 1 ≤ t)) => ?_)
              · refine And.intro (fun (c46 : m x_reader_ 1 ≤ t) => ?_) (fun (c46 : ¬ (m x_reader_ 1 ≤ t)) => ?_)
                · show cw_R _ _ 118 [vr x_reader_, vi t, vi 0, vi 0] [] (cw_put (q_m m co hd fi se te re fa st sp pa op cl sz) x_reader_ 5 t) _
                  have z : t = (k_bl (m x_reader_bytes_) (m x_reader_ 1) sp) := by
                    rw [← he]; unfold k_bl; rw [k_rn0 (p := k_sp) (fun q => by have z1 := k_spt.mp q.2; omega)]
                  refine la_go_R0 (m' := q_m m co hd fi se te re fa (k_bl (m x_reader_bytes_) (m x_reader_ 1) sp) sp pa op cl sz) (by rw [q_m_fst, z]) ?_
                  exact a00 t (by rw [← z]; unfold k_en; rw [if_neg (by omega)])
                · refine And.intro (show -2147483648 ≤ t + 1 ∧ t + 1 < 2147483648 by omega) ?_
                  show cw_R _ _ 118 [vr x_reader_, vi (t + 1), vi 0, vi 0] [] (cw_put (q_m m co hd fi se te re fa st sp pa op cl sz) x_reader_ 5 t) _
                  have z : t = (k_bl (m x_reader_bytes_) (m x_reader_ 1) sp) := by
                    rw [← he]; unfold k_bl; rw [k_rn0 (p := k_sp) (fun q => by have z1 := k_spt.mp q.2; omega)]
                  refine la_go_R0 (m' := q_m m co hd fi se te re fa (k_bl (m x_reader_bytes_) (m x_reader_ 1) sp) sp pa op cl sz) (by rw [q_m_fst, z]) ?_
                  exact a00 (t + 1) (by rw [← z]; unfold k_en k_end; rw [if_pos (by omega), if_neg (fun q => by have := k_smt.mp q; omega), if_neg (fun q => by have := k_dgt.mp q; omega)])
              · refine And.intro (show 0 ≤ t ∧ t < 400 by omega) ?_
                refine And.intro (fun (c47 : m x_reader_bytes_ t < 48) => ?_) (fun (c47 : ¬ (m x_reader_bytes_ t < 48)) => ?_)
                · refine And.intro (fun (c48 : m x_reader_ 1 ≤ t) => ?_) (fun (c48 : ¬ (m x_reader_ 1 ≤ t)) => ?_)
                  · show cw_R _ _ 118 [vr x_reader_, vi t, vi 0, vi 0] [] (cw_put (q_m m co hd fi se te re fa st sp pa op cl sz) x_reader_ 5 t) _
                    have z : t = (k_bl (m x_reader_bytes_) (m x_reader_ 1) sp) := by
                      rw [← he]; unfold k_bl; rw [k_rn0 (p := k_sp) (fun q => by have z1 := k_spt.mp q.2; omega)]
                    refine la_go_R0 (m' := q_m m co hd fi se te re fa (k_bl (m x_reader_bytes_) (m x_reader_ 1) sp) sp pa op cl sz) (by rw [q_m_fst, z]) ?_
                    exact a00 t (by rw [← z]; unfold k_en; rw [if_neg (by omega)])
                  · refine And.intro (show -2147483648 ≤ t + 1 ∧ t + 1 < 2147483648 by omega) ?_
                    show cw_R _ _ 118 [vr x_reader_, vi (t + 1), vi 0, vi 0] [] (cw_put (q_m m co hd fi se te re fa st sp pa op cl sz) x_reader_ 5 t) _
                    have z : t = (k_bl (m x_reader_bytes_) (m x_reader_ 1) sp) := by
                      rw [← he]; unfold k_bl; rw [k_rn0 (p := k_sp) (fun q => by have z1 := k_spt.mp q.2; omega)]
                    refine la_go_R0 (m' := q_m m co hd fi se te re fa (k_bl (m x_reader_bytes_) (m x_reader_ 1) sp) sp pa op cl sz) (by rw [q_m_fst, z]) ?_
                    exact a00 (t + 1) (by rw [← z]; unfold k_en k_end; rw [if_pos (by omega), if_neg (fun q => by have := k_smt.mp q; omega), if_neg (fun q => by have := k_dgt.mp q; omega)])
                · refine And.intro (show 0 ≤ t ∧ t < 400 by omega) ?_
                  refine And.intro (fun (c49 : 57 < m x_reader_bytes_ t) => ?_) (fun (c49 : ¬ (57 < m x_reader_bytes_ t)) => ?_)
                  · refine And.intro (fun (c50 : m x_reader_ 1 ≤ t) => ?_) (fun (c50 : ¬ (m x_reader_ 1 ≤ t)) => ?_)
                    · show cw_R _ _ 118 [vr x_reader_, vi t, vi 0, vi 0] [] (cw_put (q_m m co hd fi se te re fa st sp pa op cl sz) x_reader_ 5 t) _
                      have z : t = (k_bl (m x_reader_bytes_) (m x_reader_ 1) sp) := by
                        rw [← he]; unfold k_bl; rw [k_rn0 (p := k_sp) (fun q => by have z1 := k_spt.mp q.2; omega)]
                      refine la_go_R0 (m' := q_m m co hd fi se te re fa (k_bl (m x_reader_bytes_) (m x_reader_ 1) sp) sp pa op cl sz) (by rw [q_m_fst, z]) ?_
                      exact a00 t (by rw [← z]; unfold k_en; rw [if_neg (by omega)])
                    · refine And.intro (show -2147483648 ≤ t + 1 ∧ t + 1 < 2147483648 by omega) ?_
                      show cw_R _ _ 118 [vr x_reader_, vi (t + 1), vi 0, vi 0] [] (cw_put (q_m m co hd fi se te re fa st sp pa op cl sz) x_reader_ 5 t) _
                      have z : t = (k_bl (m x_reader_bytes_) (m x_reader_ 1) sp) := by
                        rw [← he]; unfold k_bl; rw [k_rn0 (p := k_sp) (fun q => by have z1 := k_spt.mp q.2; omega)]
                      refine la_go_R0 (m' := q_m m co hd fi se te re fa (k_bl (m x_reader_bytes_) (m x_reader_ 1) sp) sp pa op cl sz) (by rw [q_m_fst, z]) ?_
                      exact a00 (t + 1) (by rw [← z]; unfold k_en k_end; rw [if_pos (by omega), if_neg (fun q => by have := k_smt.mp q; omega), if_neg (fun q => by have := k_dgt.mp q; omega)])
                  · refine And.intro (fun (c51 : m x_reader_ 1 ≤ t) => ?_) (fun (c51 : ¬ (m x_reader_ 1 ≤ t)) => ?_)
                    · show cw_R _ _ 118 [vr x_reader_, vi t, vi 0, vi 1] [] (cw_put (q_m m co hd fi se te re fa st sp pa op cl sz) x_reader_ 5 t) _
                      exfalso
                      omega
                    · refine And.intro (show -2147483648 ≤ t + 1 ∧ t + 1 < 2147483648 by omega) ?_
                      show cw_R _ _ 118 [vr x_reader_, vi (t + 1), vi 0, vi 1] [] (cw_put (q_m m co hd fi se te re fa st sp pa op cl sz) x_reader_ 5 t) _
                      have z : t = (k_bl (m x_reader_bytes_) (m x_reader_ 1) sp) := by
                        rw [← he]; unfold k_bl; rw [k_rn0 (p := k_sp) (fun q => by have z1 := k_spt.mp q.2; omega)]
                      refine la_go_R0 (m' := q_m m co hd fi se te re fa (k_bl (m x_reader_bytes_) (m x_reader_ 1) sp) sp pa op cl sz) (by rw [q_m_fst, z]) ?_
                      exact a01 (t + 1) (by omega) (by rw [← z]; unfold k_en k_end; rw [if_pos (by omega), if_neg (fun q => by have := k_smt.mp q; omega), if_pos (k_dgt.mpr (by omega))])
            · refine And.intro (show 0 ≤ t ∧ t < 400 by omega) ?_
              refine And.intro (fun (c52 : 122 < m x_reader_bytes_ t) => ?_) (fun (c52 : ¬ (122 < m x_reader_bytes_ t)) => ?_)
              · refine And.intro (fun (c53 : m x_reader_ 1 ≤ t) => ?_) (fun (c53 : ¬ (m x_reader_ 1 ≤ t)) => ?_)
                · refine And.intro (fun (c54 : m x_reader_ 1 ≤ t) => ?_) (fun (c54 : ¬ (m x_reader_ 1 ≤ t)) => ?_)
                  · show cw_R _ _ 118 [vr x_reader_, vi t, vi 0, vi 0] [] (cw_put (q_m m co hd fi se te re fa st sp pa op cl sz) x_reader_ 5 t) _
                    have z : t = (k_bl (m x_reader_bytes_) (m x_reader_ 1) sp) := by
                      rw [← he]; unfold k_bl; rw [k_rn0 (p := k_sp) (fun q => by have z1 := k_spt.mp q.2; omega)]
                    refine la_go_R0 (m' := q_m m co hd fi se te re fa (k_bl (m x_reader_bytes_) (m x_reader_ 1) sp) sp pa op cl sz) (by rw [q_m_fst, z]) ?_
                    exact a00 t (by rw [← z]; unfold k_en; rw [if_neg (by omega)])
                  · refine And.intro (show -2147483648 ≤ t + 1 ∧ t + 1 < 2147483648 by omega) ?_
                    show cw_R _ _ 118 [vr x_reader_, vi (t + 1), vi 0, vi 0] [] (cw_put (q_m m co hd fi se te re fa st sp pa op cl sz) x_reader_ 5 t) _
                    have z : t = (k_bl (m x_reader_bytes_) (m x_reader_ 1) sp) := by
                      rw [← he]; unfold k_bl; rw [k_rn0 (p := k_sp) (fun q => by have z1 := k_spt.mp q.2; omega)]
                    refine la_go_R0 (m' := q_m m co hd fi se te re fa (k_bl (m x_reader_bytes_) (m x_reader_ 1) sp) sp pa op cl sz) (by rw [q_m_fst, z]) ?_
                    exact a00 (t + 1) (by rw [← z]; unfold k_en k_end; rw [if_pos (by omega), if_neg (fun q => by have := k_smt.mp q; omega), if_neg (fun q => by have := k_dgt.mp q; omega)])
                · refine And.intro (show 0 ≤ t ∧ t < 400 by omega) ?_
                  refine And.intro (fun (c55 : m x_reader_bytes_ t < 48) => ?_) (fun (c55 : ¬ (m x_reader_bytes_ t < 48)) => ?_)
                  · refine And.intro (fun (c56 : m x_reader_ 1 ≤ t) => ?_) (fun (c56 : ¬ (m x_reader_ 1 ≤ t)) => ?_)
                    · show cw_R _ _ 118 [vr x_reader_, vi t, vi 0, vi 0] [] (cw_put (q_m m co hd fi se te re fa st sp pa op cl sz) x_reader_ 5 t) _
                      have z : t = (k_bl (m x_reader_bytes_) (m x_reader_ 1) sp) := by
                        rw [← he]; unfold k_bl; rw [k_rn0 (p := k_sp) (fun q => by have z1 := k_spt.mp q.2; omega)]
                      refine la_go_R0 (m' := q_m m co hd fi se te re fa (k_bl (m x_reader_bytes_) (m x_reader_ 1) sp) sp pa op cl sz) (by rw [q_m_fst, z]) ?_
                      exact a00 t (by rw [← z]; unfold k_en; rw [if_neg (by omega)])
                    · refine And.intro (show -2147483648 ≤ t + 1 ∧ t + 1 < 2147483648 by omega) ?_
                      show cw_R _ _ 118 [vr x_reader_, vi (t + 1), vi 0, vi 0] [] (cw_put (q_m m co hd fi se te re fa st sp pa op cl sz) x_reader_ 5 t) _
                      have z : t = (k_bl (m x_reader_bytes_) (m x_reader_ 1) sp) := by
                        rw [← he]; unfold k_bl; rw [k_rn0 (p := k_sp) (fun q => by have z1 := k_spt.mp q.2; omega)]
                      refine la_go_R0 (m' := q_m m co hd fi se te re fa (k_bl (m x_reader_bytes_) (m x_reader_ 1) sp) sp pa op cl sz) (by rw [q_m_fst, z]) ?_
                      exact a00 (t + 1) (by rw [← z]; unfold k_en k_end; rw [if_pos (by omega), if_neg (fun q => by have := k_smt.mp q; omega), if_neg (fun q => by have := k_dgt.mp q; omega)])
                  · refine And.intro (show 0 ≤ t ∧ t < 400 by omega) ?_
                    refine And.intro (fun (c57 : 57 < m x_reader_bytes_ t) => ?_) (fun (c57 : ¬ (57 < m x_reader_bytes_ t)) => ?_)
                    · refine And.intro (fun (c58 : m x_reader_ 1 ≤ t) => ?_) (fun (c58 : ¬ (m x_reader_ 1 ≤ t)) => ?_)
                      · show cw_R _ _ 118 [vr x_reader_, vi t, vi 0, vi 0] [] (cw_put (q_m m co hd fi se te re fa st sp pa op cl sz) x_reader_ 5 t) _
                        have z : t = (k_bl (m x_reader_bytes_) (m x_reader_ 1) sp) := by
                          rw [← he]; unfold k_bl; rw [k_rn0 (p := k_sp) (fun q => by have z1 := k_spt.mp q.2; omega)]
                        refine la_go_R0 (m' := q_m m co hd fi se te re fa (k_bl (m x_reader_bytes_) (m x_reader_ 1) sp) sp pa op cl sz) (by rw [q_m_fst, z]) ?_
                        exact a00 t (by rw [← z]; unfold k_en; rw [if_neg (by omega)])
                      · refine And.intro (show -2147483648 ≤ t + 1 ∧ t + 1 < 2147483648 by omega) ?_
                        show cw_R _ _ 118 [vr x_reader_, vi (t + 1), vi 0, vi 0] [] (cw_put (q_m m co hd fi se te re fa st sp pa op cl sz) x_reader_ 5 t) _
                        have z : t = (k_bl (m x_reader_bytes_) (m x_reader_ 1) sp) := by
                          rw [← he]; unfold k_bl; rw [k_rn0 (p := k_sp) (fun q => by have z1 := k_spt.mp q.2; omega)]
                        refine la_go_R0 (m' := q_m m co hd fi se te re fa (k_bl (m x_reader_bytes_) (m x_reader_ 1) sp) sp pa op cl sz) (by rw [q_m_fst, z]) ?_
                        exact a00 (t + 1) (by rw [← z]; unfold k_en k_end; rw [if_pos (by omega), if_neg (fun q => by have := k_smt.mp q; omega), if_neg (fun q => by have := k_dgt.mp q; omega)])
                    · refine And.intro (fun (c59 : m x_reader_ 1 ≤ t) => ?_) (fun (c59 : ¬ (m x_reader_ 1 ≤ t)) => ?_)
                      · show cw_R _ _ 118 [vr x_reader_, vi t, vi 0, vi 1] [] (cw_put (q_m m co hd fi se te re fa st sp pa op cl sz) x_reader_ 5 t) _
                        exfalso
                        omega
                      · refine And.intro (show -2147483648 ≤ t + 1 ∧ t + 1 < 2147483648 by omega) ?_
                        show cw_R _ _ 118 [vr x_reader_, vi (t + 1), vi 0, vi 1] [] (cw_put (q_m m co hd fi se te re fa st sp pa op cl sz) x_reader_ 5 t) _
                        have z : t = (k_bl (m x_reader_bytes_) (m x_reader_ 1) sp) := by
                          rw [← he]; unfold k_bl; rw [k_rn0 (p := k_sp) (fun q => by have z1 := k_spt.mp q.2; omega)]
                        refine la_go_R0 (m' := q_m m co hd fi se te re fa (k_bl (m x_reader_bytes_) (m x_reader_ 1) sp) sp pa op cl sz) (by rw [q_m_fst, z]) ?_
                        exact a01 (t + 1) (by omega) (by rw [← z]; unfold k_en k_end; rw [if_pos (by omega), if_neg (fun q => by have := k_smt.mp q; omega), if_pos (k_dgt.mpr (by omega))])
              · refine And.intro (fun (c60 : m x_reader_ 1 ≤ t) => ?_) (fun (c60 : ¬ (m x_reader_ 1 ≤ t)) => ?_)
                · refine And.intro (fun (c61 : m x_reader_ 1 ≤ t) => ?_) (fun (c61 : ¬ (m x_reader_ 1 ≤ t)) => ?_)
                  · show cw_R _ _ 118 [vr x_reader_, vi t, vi 1, vi 0] [] (cw_put (q_m m co hd fi se te re fa st sp pa op cl sz) x_reader_ 5 t) _
                    exfalso
                    omega
                  · refine And.intro (show -2147483648 ≤ t + 1 ∧ t + 1 < 2147483648 by omega) ?_
                    show cw_R _ _ 118 [vr x_reader_, vi (t + 1), vi 1, vi 0] [] (cw_put (q_m m co hd fi se te re fa st sp pa op cl sz) x_reader_ 5 t) _
                    have z : t = (k_bl (m x_reader_bytes_) (m x_reader_ 1) sp) := by
                      rw [← he]; unfold k_bl; rw [k_rn0 (p := k_sp) (fun q => by have z1 := k_spt.mp q.2; omega)]
                    refine la_go_R0 (m' := q_m m co hd fi se te re fa (k_bl (m x_reader_bytes_) (m x_reader_ 1) sp) sp pa op cl sz) (by rw [q_m_fst, z]) ?_
                    exact l118 (m x_reader_ 1 + 1 - t).toNat (t + 1) (by omega) (by omega) (by rw [← z]; unfold k_en k_end; rw [if_pos (by omega), if_pos (k_smt.mpr (by omega))])
                · refine And.intro (show 0 ≤ t ∧ t < 400 by omega) ?_
                  refine And.intro (fun (c62 : m x_reader_bytes_ t < 48) => ?_) (fun (c62 : ¬ (m x_reader_bytes_ t < 48)) => ?_)
                  · refine And.intro (fun (c63 : m x_reader_ 1 ≤ t) => ?_) (fun (c63 : ¬ (m x_reader_ 1 ≤ t)) => ?_)
                    · show cw_R _ _ 118 [vr x_reader_, vi t, vi 1, vi 0] [] (cw_put (q_m m co hd fi se te re fa st sp pa op cl sz) x_reader_ 5 t) _
                      exfalso
                      omega
                    · refine And.intro (show -2147483648 ≤ t + 1 ∧ t + 1 < 2147483648 by omega) ?_
                      show cw_R _ _ 118 [vr x_reader_, vi (t + 1), vi 1, vi 0] [] (cw_put (q_m m co hd fi se te re fa st sp pa op cl sz) x_reader_ 5 t) _
                      have z : t = (k_bl (m x_reader_bytes_) (m x_reader_ 1) sp) := by
                        rw [← he]; unfold k_bl; rw [k_rn0 (p := k_sp) (fun q => by have z1 := k_spt.mp q.2; omega)]
                      refine la_go_R0 (m' := q_m m co hd fi se te re fa (k_bl (m x_reader_bytes_) (m x_reader_ 1) sp) sp pa op cl sz) (by rw [q_m_fst, z]) ?_
                      exact l118 (m x_reader_ 1 + 1 - t).toNat (t + 1) (by omega) (by omega) (by rw [← z]; unfold k_en k_end; rw [if_pos (by omega), if_pos (k_smt.mpr (by omega))])
                  · refine And.intro (show 0 ≤ t ∧ t < 400 by omega) ?_
                    refine And.intro (fun (c64 : 57 < m x_reader_bytes_ t) => ?_) (fun (c64 : ¬ (57 < m x_reader_bytes_ t)) => ?_)
                    · refine And.intro (fun (c65 : m x_reader_ 1 ≤ t) => ?_) (fun (c65 : ¬ (m x_reader_ 1 ≤ t)) => ?_)
                      · show cw_R _ _ 118 [vr x_reader_, vi t, vi 1, vi 0] [] (cw_put (q_m m co hd fi se te re fa st sp pa op cl sz) x_reader_ 5 t) _
                        exfalso
                        omega
                      · refine And.intro (show -2147483648 ≤ t + 1 ∧ t + 1 < 2147483648 by omega) ?_
                        show cw_R _ _ 118 [vr x_reader_, vi (t + 1), vi 1, vi 0] [] (cw_put (q_m m co hd fi se te re fa st sp pa op cl sz) x_reader_ 5 t) _
                        have z : t = (k_bl (m x_reader_bytes_) (m x_reader_ 1) sp) := by
                          rw [← he]; unfold k_bl; rw [k_rn0 (p := k_sp) (fun q => by have z1 := k_spt.mp q.2; omega)]
                        refine la_go_R0 (m' := q_m m co hd fi se te re fa (k_bl (m x_reader_bytes_) (m x_reader_ 1) sp) sp pa op cl sz) (by rw [q_m_fst, z]) ?_
                        exact l118 (m x_reader_ 1 + 1 - t).toNat (t + 1) (by omega) (by omega) (by rw [← z]; unfold k_en k_end; rw [if_pos (by omega), if_pos (k_smt.mpr (by omega))])
                    · refine And.intro (fun (c66 : m x_reader_ 1 ≤ t) => ?_) (fun (c66 : ¬ (m x_reader_ 1 ≤ t)) => ?_)
                      · show cw_R _ _ 118 [vr x_reader_, vi t, vi 1, vi 1] [] (cw_put (q_m m co hd fi se te re fa st sp pa op cl sz) x_reader_ 5 t) _
                        exfalso
                        omega
                      · refine And.intro (show -2147483648 ≤ t + 1 ∧ t + 1 < 2147483648 by omega) ?_
                        show cw_R _ _ 118 [vr x_reader_, vi (t + 1), vi 1, vi 1] [] (cw_put (q_m m co hd fi se te re fa st sp pa op cl sz) x_reader_ 5 t) _
                        exfalso
                        omega
        · refine And.intro (show -2147483648 ≤ t + 1 ∧ t + 1 < 2147483648 by omega) ?_
          show cw_R _ _ 5 [vr x_reader_, vi (t + 1), none, none] [] (q_m m co hd fi se te re fa st sp pa op cl sz) _
          refine ih (t + 1) (by omega) (by omega) ?_
          rw [← he]
          unfold k_bl
          exact (k_rn1 (p := k_sp) (by omega) (k_spt.mpr (by omega))).symm
  refine la_go_C hm 6 [5] ?_
  show cw_R _ _ 5 [vr x_reader_, vi sp, none, none] [] (q_m m co hd fi se te re fa st sp pa op cl sz) _
  exact l5 (m x_reader_ 1 + 1).toNat sp (by omega) (by omega) rfl
theorem Re_enr {b : Int → Int} {n : Int} (hn : 0 ≤ n) (i : Nat) : 0 ≤ k_en b n (k_pl b n i) ∧ k_en b n (k_pl b n i) ≤ n := by
  have h := k_plr (b := b) hn i
  unfold k_en
  split
  · rename_i q; have := k_endr (b := b) q; omega
  · omega
theorem Re_advance {d : Nat} {m : cw_M} {Q : Option cw_V → cw_M → Prop} (hm0 : la_ok m) (hn : 0 ≤ m x_reader_ 1 ∧ m x_reader_ 1 ≤ 400) (hb : ∀ i, 0 ≤ i → i < m x_reader_ 1 → 0 ≤ m x_reader_bytes_ i ∧ m x_reader_bytes_ i ≤ 255) {co hd fi se te re : Int → Int} {fa st sp pa op cl sz : Int} {i : Nat} (h1 : sp = (k_en (m x_reader_bytes_) (m x_reader_ 1) (k_pl (m x_reader_bytes_) (m x_reader_ 1) i))) (hQ : Q none (q_m m co hd fi se te re fa (k_pl (m x_reader_bytes_) (m x_reader_ 1) (i + 1)) (k_en (m x_reader_bytes_) (m x_reader_ 1) (k_pl (m x_reader_bytes_) (m x_reader_ 1) (i + 1))) pa op cl sz)) : cw_C d k_Re_advance [vr x_reader_] (q_m m co hd fi se te re fa st sp pa op cl sz) Q := by
  refine Re_advance0 hm0 hn hb (by rw [h1]; exact Re_enr hn.1 i) ?_
  rw [h1]
  exact hQ
theorem Re_advance1 {d : Nat} {m : cw_M} {Q : Option cw_V → cw_M → Prop} (hm0 : la_ok m) (hn : 0 ≤ m x_reader_ 1 ∧ m x_reader_ 1 ≤ 400) (hb : ∀ i, 0 ≤ i → i < m x_reader_ 1 → 0 ≤ m x_reader_bytes_ i ∧ m x_reader_bytes_ i ≤ 255) {co hd fi se te re : Int → Int} {fa st sp pa op cl sz : Int} (h1 : sp = 0) (hQ : Q none (q_m m co hd fi se te re fa (k_pl (m x_reader_bytes_) (m x_reader_ 1) 0) (k_en (m x_reader_bytes_) (m x_reader_ 1) (k_pl (m x_reader_bytes_) (m x_reader_ 1) 0)) pa op cl sz)) : cw_C d k_Re_advance [vr x_reader_] (q_m m co hd fi se te re fa st sp pa op cl sz) Q := by
  refine Re_advance0 hm0 hn hb (by omega) ?_
  rw [h1]
  exact hQ
theorem Re_isSign {d : Nat} {m : cw_M} {Q : Option cw_V → cw_M → Prop} (hm0 : la_ok m) (hn : 0 ≤ m x_reader_ 1 ∧ m x_reader_ 1 ≤ 400) (hb : ∀ i, 0 ≤ i → i < m x_reader_ 1 → 0 ≤ m x_reader_bytes_ i ∧ m x_reader_bytes_ i ≤ 255) {co hd fi se te re : Int → Int} {fa st sp pa op cl sz : Int} {i : Nat} {ch : Int} (g1 : k_sm ch = false) (g2 : k_dg ch = false) (g0 : 0 ≤ ch) (h1 : k_cd (m x_reader_bytes_) (m x_reader_ 1) (k_pl (m x_reader_bytes_) (m x_reader_ 1) i) = 100 + ch → Q (some (vi 1)) (q_m m co hd fi se te re fa (k_pl (m x_reader_bytes_) (m x_reader_ 1) i) (k_en (m x_reader_bytes_) (m x_reader_ 1) (k_pl (m x_reader_bytes_) (m x_reader_ 1) i)) pa op cl sz)) (h0 : k_cd (m x_reader_bytes_) (m x_reader_ 1) (k_pl (m x_reader_bytes_) (m x_reader_ 1) i) ≠ 100 + ch → Q (some (vi 0)) (q_m m co hd fi se te re fa (k_pl (m x_reader_bytes_) (m x_reader_ 1) i) (k_en (m x_reader_bytes_) (m x_reader_ 1) (k_pl (m x_reader_bytes_) (m x_reader_ 1) i)) pa op cl sz)) : cw_C d k_Re_isSign [vr x_reader_, vi ch] (q_m m co hd fi se te re fa (k_pl (m x_reader_bytes_) (m x_reader_ 1) i) (k_en (m x_reader_bytes_) (m x_reader_ 1) (k_pl (m x_reader_bytes_) (m x_reader_ 1) i)) pa op cl sz) Q := by
  have hm : la_ok (q_m m co hd fi se te re fa (k_pl (m x_reader_bytes_) (m x_reader_ 1) i) (k_en (m x_reader_bytes_) (m x_reader_ 1) (k_pl (m x_reader_bytes_) (m x_reader_ 1) i)) pa op cl sz) := q_m_ok hm0
  have pr := k_plr (b := (m x_reader_bytes_)) hn.1 i
  have ks := k_sign (b := (m x_reader_bytes_)) (n := m x_reader_ 1) (k := (k_pl (m x_reader_bytes_) (m x_reader_ 1) i)) hb pr.1 g1 g2 g0
  refine la_go_C hm 18 [] ?_
  refine And.intro (fun (c1 : m x_reader_ 1 ≤ (k_pl (m x_reader_bytes_) (m x_reader_ 1) i)) => ?_) (fun (c1 : ¬ (m x_reader_ 1 ≤ (k_pl (m x_reader_bytes_) (m x_reader_ 1) i))) => ?_)
  · refine And.intro (Or.inl rfl) ?_
    show Q (some (vi 0)) (q_m m co hd fi se te re fa (k_pl (m x_reader_bytes_) (m x_reader_ 1) i) (k_en (m x_reader_bytes_) (m x_reader_ 1) (k_pl (m x_reader_bytes_) (m x_reader_ 1) i)) pa op cl sz)
    exact h0 (fun q => by have := ks.mpr q; omega)
  · refine And.intro (show 0 ≤ (k_pl (m x_reader_bytes_) (m x_reader_ 1) i) ∧ (k_pl (m x_reader_bytes_) (m x_reader_ 1) i) < 400 by omega) ?_
    refine And.intro (fun (c2 : m x_reader_bytes_ (k_pl (m x_reader_bytes_) (m x_reader_ 1) i) ≠ ch) => ?_) (fun (c2 : ¬ (m x_reader_bytes_ (k_pl (m x_reader_bytes_) (m x_reader_ 1) i) ≠ ch)) => ?_)
    · refine And.intro (Or.inl rfl) ?_
      show Q (some (vi 0)) (q_m m co hd fi se te re fa (k_pl (m x_reader_bytes_) (m x_reader_ 1) i) (k_en (m x_reader_bytes_) (m x_reader_ 1) (k_pl (m x_reader_bytes_) (m x_reader_ 1) i)) pa op cl sz)
      exact h0 (fun q => by have := ks.mpr q; omega)
    · refine And.intro (Or.inr rfl) ?_
      show Q (some (vi 1)) (q_m m co hd fi se te re fa (k_pl (m x_reader_bytes_) (m x_reader_ 1) i) (k_en (m x_reader_bytes_) (m x_reader_ 1) (k_pl (m x_reader_bytes_) (m x_reader_ 1) i)) pa op cl sz)
      exact h1 (ks.mp (by omega))
theorem Jm_min {d : Nat} {m : cw_M} {a b : Int} {Q : Option cw_V → cw_M → Prop} (h : Q (some (vi (min a b))) m) : cw_C d k_Jm_min [vi a, vi b] m Q := by
  refine cw_go_C 12 [] ?_
  refine And.intro (fun c => ?_) (fun c => ?_)
  · rw [show min a b = b by omega] at h; exact h
  · rw [show min a b = a by omega] at h; exact h
theorem Jm_max {d : Nat} {m : cw_M} {a b : Int} {Q : Option cw_V → cw_M → Prop} (h : Q (some (vi (max a b))) m) : cw_C d k_Jm_max [vi a, vi b] m Q := by
  refine cw_go_C 12 [] ?_
  refine And.intro (fun c => ?_) (fun c => ?_)
  · rw [show max a b = b by omega] at h; exact h
  · rw [show max a b = a by omega] at h; exact h
theorem Re_number {d : Nat} {m : cw_M} {Q : Option cw_V → cw_M → Prop} (hm0 : la_ok m) (hn : 0 ≤ m x_reader_ 1 ∧ m x_reader_ 1 ≤ 400) (hb : ∀ i, 0 ≤ i → i < m x_reader_ 1 → 0 ≤ m x_reader_bytes_ i ∧ m x_reader_bytes_ i ≤ 255) {co hd fi se te re : Int → Int} {fa st sp pa op cl sz : Int} {i : Nat} (h1 : k_cd (m x_reader_bytes_) (m x_reader_ 1) (k_pl (m x_reader_bytes_) (m x_reader_ 1) i) = 50 → Q (some (vi (min 10000 (k_vl (m x_reader_bytes_) (m x_reader_ 1) (k_pl (m x_reader_bytes_) (m x_reader_ 1) i))))) (q_m m co hd fi se te re fa (k_pl (m x_reader_bytes_) (m x_reader_ 1) i) (k_en (m x_reader_bytes_) (m x_reader_ 1) (k_pl (m x_reader_bytes_) (m x_reader_ 1) i)) pa op cl sz)) (h0 : k_cd (m x_reader_bytes_) (m x_reader_ 1) (k_pl (m x_reader_bytes_) (m x_reader_ 1) i) ≠ 50 → Q (some (vi (-1))) (q_m m co hd fi se te re fa (k_pl (m x_reader_bytes_) (m x_reader_ 1) i) (k_en (m x_reader_bytes_) (m x_reader_ 1) (k_pl (m x_reader_bytes_) (m x_reader_ 1) i)) pa op cl sz)) : cw_C (d + 1) k_Re_number [vr x_reader_] (q_m m co hd fi se te re fa (k_pl (m x_reader_bytes_) (m x_reader_ 1) i) (k_en (m x_reader_bytes_) (m x_reader_ 1) (k_pl (m x_reader_bytes_) (m x_reader_ 1) i)) pa op cl sz) Q := by
  have hm : la_ok (q_m m co hd fi se te re fa (k_pl (m x_reader_bytes_) (m x_reader_ 1) i) (k_en (m x_reader_bytes_) (m x_reader_ 1) (k_pl (m x_reader_bytes_) (m x_reader_ 1) i)) pa op cl sz) := q_m_ok hm0
  have pr := k_plr (b := (m x_reader_bytes_)) hn.1 i
  have main : k_cd (m x_reader_bytes_) (m x_reader_ 1) (k_pl (m x_reader_bytes_) (m x_reader_ 1) i) = 50 → cw_R (d + 1) k_Re_number 48 [vr x_reader_, vi 0, vi (k_pl (m x_reader_bytes_) (m x_reader_ 1) i)] [] (q_m m co hd fi se te re fa (k_pl (m x_reader_bytes_) (m x_reader_ 1) i) (k_en (m x_reader_bytes_) (m x_reader_ 1) (k_pl (m x_reader_bytes_) (m x_reader_ 1) i)) pa op cl sz) Q := by
    intro kc
    have kd := (k_numb (b := (m x_reader_bytes_)) hb pr.1).mpr kc
    have er := k_endr (b := (m x_reader_bytes_)) kd.1
    have ee : (k_en (m x_reader_bytes_) (m x_reader_ 1) (k_pl (m x_reader_bytes_) (m x_reader_ 1) i)) = k_end (m x_reader_bytes_) (m x_reader_ 1) (k_pl (m x_reader_bytes_) (m x_reader_ 1) i) := by unfold k_en; rw [if_pos kd.1]
    have he : k_end (m x_reader_bytes_) (m x_reader_ 1) (k_pl (m x_reader_bytes_) (m x_reader_ 1) i) = k_rn (m x_reader_bytes_) (m x_reader_ 1) k_dg ((k_pl (m x_reader_bytes_) (m x_reader_ 1) i) + 1) := by unfold k_end; rw [if_neg (by rw [k_smt]; have := k_dgt.mp kd.2; omega), if_pos kd.2]
    have dgs : ∀ z : Nat, (k_pl (m x_reader_bytes_) (m x_reader_ 1) i) + z < (k_en (m x_reader_bytes_) (m x_reader_ 1) (k_pl (m x_reader_bytes_) (m x_reader_ 1) i)) → k_dg ((m x_reader_bytes_) ((k_pl (m x_reader_bytes_) (m x_reader_ 1) i) + z)) = true := by
      intro z hz
      by_cases z0 : z = 0
      · rw [z0, show (k_pl (m x_reader_bytes_) (m x_reader_ 1) i) + ((0 : Nat) : Int) = (k_pl (m x_reader_bytes_) (m x_reader_ 1) i) by omega]; exact kd.2
      · exact (k_rnr (b := (m x_reader_bytes_)) (n := m x_reader_ 1) (p := k_dg) _ (k := (k_pl (m x_reader_bytes_) (m x_reader_ 1) i) + 1) (Nat.le_refl _)).2.2.2 ((k_pl (m x_reader_bytes_) (m x_reader_ 1) i) + z) (by omega) (by rw [← he]; omega)
    have ev : (k_cv (m x_reader_bytes_) (k_pl (m x_reader_bytes_) (m x_reader_ 1) i) ((k_en (m x_reader_bytes_) (m x_reader_ 1) (k_pl (m x_reader_bytes_) (m x_reader_ 1) i)) - (k_pl (m x_reader_bytes_) (m x_reader_ 1) i)).toNat) = min 10000 (k_vl (m x_reader_bytes_) (m x_reader_ 1) (k_pl (m x_reader_bytes_) (m x_reader_ 1) i)) := by rw [ee]; exact (k_vlr (b := (m x_reader_bytes_))).2.2 kd.1 kd.2
    have lN : ∀ (r : Nat) (j : Int), (k_en (m x_reader_bytes_) (m x_reader_ 1) (k_pl (m x_reader_bytes_) (m x_reader_ 1) i)) < j + r → ((k_pl (m x_reader_bytes_) (m x_reader_ 1) i) ≤ j ∧ j ≤ (k_en (m x_reader_bytes_) (m x_reader_ 1) (k_pl (m x_reader_bytes_) (m x_reader_ 1) i))) → cw_R (d + 1) k_Re_number 48 [vr x_reader_, vi (k_cv (m x_reader_bytes_) (k_pl (m x_reader_bytes_) (m x_reader_ 1) i) (j - (k_pl (m x_reader_bytes_) (m x_reader_ 1) i)).toNat), vi j] [] (q_m m co hd fi se te re fa (k_pl (m x_reader_bytes_) (m x_reader_ 1) i) (k_en (m x_reader_bytes_) (m x_reader_ 1) (k_pl (m x_reader_bytes_) (m x_reader_ 1) i)) pa op cl sz) Q := by
      intro r
      induction r with
      | zero =>
        intro j hr hj
        omega
      | succ r ih =>
        intro j hr hj
        have cr : 0 ≤ (k_cv (m x_reader_bytes_) (k_pl (m x_reader_bytes_) (m x_reader_ 1) i) (j - (k_pl (m x_reader_bytes_) (m x_reader_ 1) i)).toNat) ∧ (k_cv (m x_reader_bytes_) (k_pl (m x_reader_bytes_) (m x_reader_ 1) i) (j - (k_pl (m x_reader_bytes_) (m x_reader_ 1) i)).toNat) ≤ 10000 := by
          have := k_nvr (b := (m x_reader_bytes_)) (s := (k_pl (m x_reader_bytes_) (m x_reader_ 1) i)) (j - (k_pl (m x_reader_bytes_) (m x_reader_ 1) i)).toNat (fun z hz => dgs z (by omega))
          omega
        have bj : j < (k_en (m x_reader_bytes_) (m x_reader_ 1) (k_pl (m x_reader_bytes_) (m x_reader_ 1) i)) → 0 ≤ m x_reader_bytes_ j ∧ m x_reader_bytes_ j ≤ 255 := fun q => hb j (by omega) (by omega)
        have dj : j < (k_en (m x_reader_bytes_) (m x_reader_ 1) (k_pl (m x_reader_bytes_) (m x_reader_ 1) i)) → 48 ≤ m x_reader_bytes_ j ∧ m x_reader_bytes_ j ≤ 57 := fun q => by
          have := k_dgt.mp (dgs (j - (k_pl (m x_reader_bytes_) (m x_reader_ 1) i)).toNat (by omega)); rw [show (k_pl (m x_reader_bytes_) (m x_reader_ 1) i) + (((j - (k_pl (m x_reader_bytes_) (m x_reader_ 1) i)).toNat : Nat) : Int) = j by omega] at this; exact this
        refine la_go_R hm 22 [48] ?_
        refine And.intro (fun (c1 : (k_en (m x_reader_bytes_) (m x_reader_ 1) (k_pl (m x_reader_bytes_) (m x_reader_ 1) i)) ≤ j) => ?_) (fun (c1 : ¬ ((k_en (m x_reader_bytes_) (m x_reader_ 1) (k_pl (m x_reader_bytes_) (m x_reader_ 1) i)) ≤ j)) => ?_)
        · show Q (some (vi (k_cv (m x_reader_bytes_) (k_pl (m x_reader_bytes_) (m x_reader_ 1) i) (j - (k_pl (m x_reader_bytes_) (m x_reader_ 1) i)).toNat))) (q_m m co hd fi se te re fa (k_pl (m x_reader_bytes_) (m x_reader_ 1) i) (k_en (m x_reader_bytes_) (m x_reader_ 1) (k_pl (m x_reader_bytes_) (m x_reader_ 1) i)) pa op cl sz)
          rw [show j = (k_en (m x_reader_bytes_) (m x_reader_ 1) (k_pl (m x_reader_bytes_) (m x_reader_ 1) i)) by omega, ev]
          exact h1 kc
        · refine And.intro (show -2147483648 ≤ 10 * (k_cv (m x_reader_bytes_) (k_pl (m x_reader_bytes_) (m x_reader_ 1) i) (j - (k_pl (m x_reader_bytes_) (m x_reader_ 1) i)).toNat) ∧ 10 * (k_cv (m x_reader_bytes_) (k_pl (m x_reader_bytes_) (m x_reader_ 1) i) (j - (k_pl (m x_reader_bytes_) (m x_reader_ 1) i)).toNat) < 2147483648 by omega) ?_
          refine And.intro (show 0 ≤ j ∧ j < 400 by omega) ?_
          refine And.intro (show -2147483648 ≤ (10 * (k_cv (m x_reader_bytes_) (k_pl (m x_reader_bytes_) (m x_reader_ 1) i) (j - (k_pl (m x_reader_bytes_) (m x_reader_ 1) i)).toNat)) + (m x_reader_bytes_ j) ∧ (10 * (k_cv (m x_reader_bytes_) (k_pl (m x_reader_bytes_) (m x_reader_ 1) i) (j - (k_pl (m x_reader_bytes_) (m x_reader_ 1) i)).toNat)) + (m x_reader_bytes_ j) < 2147483648 by omega) ?_
          refine And.intro (show -2147483648 ≤ ((10 * (k_cv (m x_reader_bytes_) (k_pl (m x_reader_bytes_) (m x_reader_ 1) i) (j - (k_pl (m x_reader_bytes_) (m x_reader_ 1) i)).toNat)) + (m x_reader_bytes_ j)) - 48 ∧ ((10 * (k_cv (m x_reader_bytes_) (k_pl (m x_reader_bytes_) (m x_reader_ 1) i) (j - (k_pl (m x_reader_bytes_) (m x_reader_ 1) i)).toNat)) + (m x_reader_bytes_ j)) - 48 < 2147483648 by omega) ?_
          show cw_C _ _ [vi 10000, vi (((10 * (k_cv (m x_reader_bytes_) (k_pl (m x_reader_bytes_) (m x_reader_ 1) i) (j - (k_pl (m x_reader_bytes_) (m x_reader_ 1) i)).toNat)) + (m x_reader_bytes_ j)) - 48)] (q_m m co hd fi se te re fa (k_pl (m x_reader_bytes_) (m x_reader_ 1) i) (k_en (m x_reader_bytes_) (m x_reader_ 1) (k_pl (m x_reader_bytes_) (m x_reader_ 1) i)) pa op cl sz) _
          refine Jm_min ⟨hm, ?_⟩
          refine And.intro (show -2147483648 ≤ j + 1 ∧ j + 1 < 2147483648 by omega) ?_
          show cw_R _ _ 48 [vr x_reader_, vi (min 10000 (((10 * (k_cv (m x_reader_bytes_) (k_pl (m x_reader_bytes_) (m x_reader_ 1) i) (j - (k_pl (m x_reader_bytes_) (m x_reader_ 1) i)).toNat)) + (m x_reader_bytes_ j)) - 48)), vi (j + 1)] [] (q_m m co hd fi se te re fa (k_pl (m x_reader_bytes_) (m x_reader_ 1) i) (k_en (m x_reader_bytes_) (m x_reader_ 1) (k_pl (m x_reader_bytes_) (m x_reader_ 1) i)) pa op cl sz) _
          rw [show min 10000 (((10 * (k_cv (m x_reader_bytes_) (k_pl (m x_reader_bytes_) (m x_reader_ 1) i) (j - (k_pl (m x_reader_bytes_) (m x_reader_ 1) i)).toNat)) + (m x_reader_bytes_ j)) - 48) = (k_cv (m x_reader_bytes_) (k_pl (m x_reader_bytes_) (m x_reader_ 1) i) (j + 1 - (k_pl (m x_reader_bytes_) (m x_reader_ 1) i)).toNat) by rw [show (j + 1 - (k_pl (m x_reader_bytes_) (m x_reader_ 1) i)).toNat = (j - (k_pl (m x_reader_bytes_) (m x_reader_ 1) i)).toNat + 1 by omega]; show _ = min 10000 (10 * (k_cv (m x_reader_bytes_) (k_pl (m x_reader_bytes_) (m x_reader_ 1) i) (j - (k_pl (m x_reader_bytes_) (m x_reader_ 1) i)).toNat) + (m x_reader_bytes_) ((k_pl (m x_reader_bytes_) (m x_reader_ 1) i) + ((j - (k_pl (m x_reader_bytes_) (m x_reader_ 1) i)).toNat : Nat)) - 48); rw [show (k_pl (m x_reader_bytes_) (m x_reader_ 1) i) + (((j - (k_pl (m x_reader_bytes_) (m x_reader_ 1) i)).toNat : Nat) : Int) = j by omega]]
          exact ih (j + 1) (by omega) (by omega)
    refine la_go_R0 rfl ?_
    have z := lN (((k_en (m x_reader_bytes_) (m x_reader_ 1) (k_pl (m x_reader_bytes_) (m x_reader_ 1) i)) + 1 - (k_pl (m x_reader_bytes_) (m x_reader_ 1) i)).toNat) (k_pl (m x_reader_bytes_) (m x_reader_ 1) i) (by omega) (by omega)
    rw [show ((k_pl (m x_reader_bytes_) (m x_reader_ 1) i) - (k_pl (m x_reader_bytes_) (m x_reader_ 1) i)).toNat = 0 by omega] at z
    exact z
  refine la_go_C hm 27 [48] ?_
  refine And.intro (fun (c1 : m x_reader_ 1 ≤ (k_pl (m x_reader_bytes_) (m x_reader_ 1) i)) => ?_) (fun (c1 : ¬ (m x_reader_ 1 ≤ (k_pl (m x_reader_bytes_) (m x_reader_ 1) i))) => ?_)
  · show Q (some (vi (-1))) (q_m m co hd fi se te re fa (k_pl (m x_reader_bytes_) (m x_reader_ 1) i) (k_en (m x_reader_bytes_) (m x_reader_ 1) (k_pl (m x_reader_bytes_) (m x_reader_ 1) i)) pa op cl sz)
    exact h0 (fun q => by have := (k_numb (b := (m x_reader_bytes_)) hb pr.1).mpr q; have := k_dgt.mp this.2; omega)
  · refine And.intro (show 0 ≤ (k_pl (m x_reader_bytes_) (m x_reader_ 1) i) ∧ (k_pl (m x_reader_bytes_) (m x_reader_ 1) i) < 400 by omega) ?_
    refine And.intro (fun (c2 : m x_reader_bytes_ (k_pl (m x_reader_bytes_) (m x_reader_ 1) i) < 48) => ?_) (fun (c2 : ¬ (m x_reader_bytes_ (k_pl (m x_reader_bytes_) (m x_reader_ 1) i) < 48)) => ?_)
    · show Q (some (vi (-1))) (q_m m co hd fi se te re fa (k_pl (m x_reader_bytes_) (m x_reader_ 1) i) (k_en (m x_reader_bytes_) (m x_reader_ 1) (k_pl (m x_reader_bytes_) (m x_reader_ 1) i)) pa op cl sz)
      exact h0 (fun q => by have := (k_numb (b := (m x_reader_bytes_)) hb pr.1).mpr q; have := k_dgt.mp this.2; omega)
    · refine And.intro (show 0 ≤ (k_pl (m x_reader_bytes_) (m x_reader_ 1) i) ∧ (k_pl (m x_reader_bytes_) (m x_reader_ 1) i) < 400 by omega) ?_
      refine And.intro (fun (c3 : m x_reader_bytes_ (k_pl (m x_reader_bytes_) (m x_reader_ 1) i) ≤ 57) => ?_) (fun (c3 : ¬ (m x_reader_bytes_ (k_pl (m x_reader_bytes_) (m x_reader_ 1) i) ≤ 57)) => ?_)
      · show cw_R _ _ 48 [vr x_reader_, vi 0, vi (k_pl (m x_reader_bytes_) (m x_reader_ 1) i)] [] (q_m m co hd fi se te re fa (k_pl (m x_reader_bytes_) (m x_reader_ 1) i) (k_en (m x_reader_bytes_) (m x_reader_ 1) (k_pl (m x_reader_bytes_) (m x_reader_ 1) i)) pa op cl sz) _
        have kc := (k_numb (b := (m x_reader_bytes_)) hb pr.1).mp ⟨by omega, k_dgt.mpr (by omega)⟩
        exact main kc
      · show Q (some (vi (-1))) (q_m m co hd fi se te re fa (k_pl (m x_reader_bytes_) (m x_reader_ 1) i) (k_en (m x_reader_bytes_) (m x_reader_ 1) (k_pl (m x_reader_bytes_) (m x_reader_ 1) i)) pa op cl sz)
        exact h0 (fun q => by have := (k_numb (b := (m x_reader_bytes_)) hb pr.1).mpr q; have := k_dgt.mp this.2; omega)
