/-! The class reads a text: the whole (wip/whole/tools/m82.py). -/
theorem q_m_puts {M : cw_M} : cw_put (cw_put (cw_put (cw_put (cw_put (cw_put M x_reader_ 7 0) x_reader_ 8 0) x_reader_ 6 0) x_reader_ 2 (-1)) x_reader_text_ 0 0) x_reader_text_ 1 0 = q_m M (M x_reader_text_code_) (M x_reader_text_head_) (M x_reader_text_first_) (M x_reader_text_second_) (M x_reader_text_test_) (M x_reader_text_repeats_) (-1) (M x_reader_ 5) 0 0 0 0 0 :=
  (congrArg (fun Z => cw_put (cw_put (cw_put (cw_put (cw_put (cw_put Z x_reader_ 7 0) x_reader_ 8 0) x_reader_ 6 0) x_reader_ 2 (-1)) x_reader_text_ 0 0) x_reader_text_ 1 0) (q_m_self (m := M)).symm).trans (by show cw_put (cw_put (cw_put (cw_put (cw_put (cw_put (q_m M (M x_reader_text_code_) (M x_reader_text_head_) (M x_reader_text_first_) (M x_reader_text_second_) (M x_reader_text_test_) (M x_reader_text_repeats_) (M x_reader_ 2) (M x_reader_ 5) (M x_reader_ 6) (M x_reader_ 7) (M x_reader_ 8) (M x_reader_text_ 0) (M x_reader_text_ 1)) x_reader_ 7 0) x_reader_ 8 0) x_reader_ 6 0) x_reader_ 2 (-1)) x_reader_text_ 0 0) x_reader_text_ 1 0 = _; rw [q_m_fpa, q_m_fop, q_m_fsp, q_m_ffa, q_m_fcl, q_m_fsz])
theorem X_h4 {m : cw_M} {tk w : Int} (hX : X_h m tk) : X_h (cw_put m x_reader_ 4 w) tk := by
  have e1 : cw_put m x_reader_ 4 w x_reader_bytes_ = m x_reader_bytes_ := cw_put_ne (by decide)
  have e2 : cw_put m x_reader_ 4 w x_reader_ 1 = m x_reader_ 1 := rfl
  refine ⟨⟨fun c h0 h1 h2 => ?_, fun j h0 h1 => ?_⟩, ?_, ?_, ?_⟩
  · rw [cw_put_ne (fun q => by rw [q] at h1; exact absurd h1 (by decide))]; exact hX.1.1 c h0 h1 h2
  · rw [cw_put_ne (by decide)]; exact hX.1.2 j h0 h1
  · rw [e2]; exact hX.2.1
  · rw [e1, e2]; exact hX.2.2.1
  · rw [e1, e2]; exact hX.2.2.2
theorem X_p4 {m M : cw_M} {w fa : Int} (h : X_p (cw_put m x_reader_ 4 w) M fa) : X_p m M fa :=
  ⟨fun c h1 h2 h3 h4 h5 h6 h7 h8 => by rw [h.1 c h1 h2 h3 h4 h5 h6 h7 h8, cw_put_ne h1], h.2⟩
theorem x_c4 {m : cw_M} {w : Int} : x_c (cw_put m x_reader_ 4 w) = x_c m := by
  show k_C (cw_put m x_reader_ 4 w x_reader_bytes_) (cw_put m x_reader_ 4 w x_reader_ 1) = _
  rw [cw_put_ne (by decide)]; rfl
theorem x_v4 {m : cw_M} {w : Int} : x_v (cw_put m x_reader_ 4 w) = x_v m := by
  show k_V (cw_put m x_reader_ 4 w x_reader_bytes_) (cw_put m x_reader_ 4 w x_reader_ 1) = _
  rw [cw_put_ne (by decide)]; rfl
theorem x_P4 {m : cw_M} {w i : Int} : x_P (cw_put m x_reader_ 4 w) i = x_P m i := by
  show k_P (cw_put m x_reader_ 4 w x_reader_bytes_) (cw_put m x_reader_ 4 w x_reader_ 1) i = _
  rw [cw_put_ne (by decide)]; rfl
theorem p_nx0 {c v : Int → Int} {o : Bool} {n : Int} : p_nx c v o n 13 0 0 0 [] = p_all c v o n := rfl
theorem Re_parseT {d : Nat} {m : cw_M} {Q : Option cw_V → cw_M → Prop} (hm : la_ok m) {tk : Int} (hX : X_h m tk) (hok : ∀ Ks M, la_ok M → X_p m M (-1) → p_all (x_c m) (x_v m) true tk = .ok Ks → X_t true M Ks → Q (some (vi 1)) M) (her : ∀ er M, la_ok M → X_p m M (x_P m er) → p_all (x_c m) (x_v m) true tk = .error er → Q (some (vi 0)) M) : cw_C (d + 41) k_Re_parse [vr x_reader_, vi 0] m Q := by
  have hm1 : la_ok (cw_put m x_reader_ 4 0) := la_put hm (by decide) (Or.inl rfl)
  have hX1 : X_h (cw_put m x_reader_ 4 0) tk := X_h4 hX
  refine la_go_C hm 45 [52] ?_
  refine And.intro (Or.inl rfl) ?_
  show cw_C _ _ [vr x_reader_] (cw_put (cw_put (cw_put (cw_put (cw_put (cw_put (cw_put m x_reader_ 4 0) x_reader_ 7 0) x_reader_ 8 0) x_reader_ 6 0) x_reader_ 2 (-1)) x_reader_text_ 0 0) x_reader_text_ 1 0) _
  rw [q_m_puts]
  refine Re_advance1 hm1 hX1.2.1 hX1.2.2.1 rfl ⟨q_m_ok hm1, ?_⟩
  refine Re_parse52T hm1 hX1 rfl rfl 13 0 0 0 [] _ 0 _ _ _ _ _ 0 (by decide) (by decide) (by decide) rfl (by decide) hX.2.2.2.1.1 (by decide) (by decide) (by decide) (by decide) (fun j a b => by omega) e_cls0 (fun Ks M hM hp ez ht => hok Ks M hM (X_p4 hp) ?_ ht) (fun er M hM hp ez => her er M hM ?_ ?_)
  · rw [x_c4, x_v4, p_nx0] at ez; exact ez
  · rw [x_P4] at hp; exact X_p4 hp
  · rw [x_c4, x_v4, p_nx0] at ez; exact ez
theorem Re_parseF {d : Nat} {m : cw_M} {Q : Option cw_V → cw_M → Prop} (hm : la_ok m) {tk : Int} (hX : X_h m tk) (hok : ∀ Ks M, la_ok M → X_p m M (-1) → p_all (x_c m) (x_v m) false tk = .ok Ks → X_t false M Ks → Q (some (vi 1)) M) (her : ∀ er M, la_ok M → X_p m M (x_P m er) → p_all (x_c m) (x_v m) false tk = .error er → Q (some (vi 0)) M) : cw_C (d + 41) k_Re_parse [vr x_reader_, vi 1] m Q := by
  have hm1 : la_ok (cw_put m x_reader_ 4 1) := la_put hm (by decide) (Or.inl rfl)
  have hX1 : X_h (cw_put m x_reader_ 4 1) tk := X_h4 hX
  refine la_go_C hm 45 [52] ?_
  refine And.intro (Or.inr rfl) ?_
  show cw_C _ _ [vr x_reader_] (cw_put (cw_put (cw_put (cw_put (cw_put (cw_put (cw_put m x_reader_ 4 1) x_reader_ 7 0) x_reader_ 8 0) x_reader_ 6 0) x_reader_ 2 (-1)) x_reader_text_ 0 0) x_reader_text_ 1 0) _
  rw [q_m_puts]
  refine Re_advance1 hm1 hX1.2.1 hX1.2.2.1 rfl ⟨q_m_ok hm1, ?_⟩
  refine Re_parse52F hm1 hX1 rfl rfl 13 0 0 0 [] _ 0 _ _ _ _ _ 0 (by decide) (by decide) (by decide) rfl (by decide) hX.2.2.2.1.1 (by decide) (by decide) (by decide) (by decide) (fun j a b => by omega) e_cls0 (fun Ks M hM hp ez ht => hok Ks M hM (X_p4 hp) ?_ ht) (fun er M hM hp ez => her er M hM ?_ ?_)
  · rw [x_c4, x_v4, p_nx0] at ez; exact ez
  · rw [x_P4] at hp; exact X_p4 hp
  · rw [x_c4, x_v4, p_nx0] at ez; exact ez
