/-! Which trees are readings, as the reference finds them (wip/whole/tools/m55.py). -/
def r_m (m : cw_M) (lo hi mk to : Int → Int) (tm rm : Int) : cw_M := fun c => if c = m_low_ then lo else if c = m_high_ then hi else if c = m_marks_ then mk else if c = m_treeOf_ then to else if c = m_ then (fun j => if j = 32 then tm else if j = 35 then rm else m m_ j) else m c
theorem r_m_ne {m : cw_M} {lo hi mk to : Int → Int} {tm rm : Int} {c : Int} (h0 : c ≠ m_low_) (h1 : c ≠ m_high_) (h2 : c ≠ m_marks_) (h3 : c ≠ m_treeOf_) (h4 : c ≠ m_) : r_m m lo hi mk to tm rm c = m c := by
  unfold r_m; rw [if_neg h0, if_neg h1, if_neg h2, if_neg h3, if_neg h4]
theorem r_m_lo {m : cw_M} {lo hi mk to : Int → Int} {tm rm : Int} : r_m m lo hi mk to tm rm m_low_ = lo := rfl
theorem r_m_hi {m : cw_M} {lo hi mk to : Int → Int} {tm rm : Int} : r_m m lo hi mk to tm rm m_high_ = hi := rfl
theorem r_m_mk {m : cw_M} {lo hi mk to : Int → Int} {tm rm : Int} : r_m m lo hi mk to tm rm m_marks_ = mk := rfl
theorem r_m_to {m : cw_M} {lo hi mk to : Int → Int} {tm rm : Int} : r_m m lo hi mk to tm rm m_treeOf_ = to := rfl
theorem r_m_om_ {m : cw_M} {lo hi mk to : Int → Int} {tm rm : Int} {j : Int} (h0 : j ≠ 32) (h1 : j ≠ 35) : r_m m lo hi mk to tm rm m_ j = m m_ j := by
  show (if j = 32 then tm else if j = 35 then rm else m m_ j) = _
  rw [if_neg h0, if_neg h1]
theorem r_m_ok {m : cw_M} {lo hi mk to : Int → Int} {tm rm : Int} (hm : la_ok m) : la_ok (r_m m lo hi mk to tm rm) := by
  refine ⟨by rw [r_m_ne (by decide) (by decide) (by decide) (by decide) (by decide)]; exact hm.1, fun e he => ?_⟩
  obtain ⟨z1, h2, -, z4⟩ := la_lok e he
  have n0 : e.1 ≠ m_low_ := fun q => by rw [q] at h2; revert h2; decide
  have n1 : e.1 ≠ m_high_ := fun q => by rw [q] at h2; revert h2; decide
  have n2 : e.1 ≠ m_marks_ := fun q => by rw [q] at h2; revert h2; decide
  have n3 : e.1 ≠ m_treeOf_ := fun q => by rw [q] at h2; revert h2; decide
  by_cases q0 : e.1 = m_
  · rw [q0, r_m_om_ (fun q => by rw [q0, q] at z4; cases z4) (fun q => by rw [q0, q] at z4; cases z4), ← q0]; exact hm.2 e he
  rw [r_m_ne n0 n1 n2 n3 q0]; exact hm.2 e he
theorem r_m_x {m M : cw_M} {lo hi mk to : Int → Int} {tm rm : Int} (r0 : M m_low_ = lo) (r1 : M m_high_ = hi) (r2 : M m_marks_ = mk) (r3 : M m_treeOf_ = to) (f0 : M m_ 32 = tm) (f1 : M m_ 35 = rm) (o0 : ∀ j, j ≠ 32 → j ≠ 35 → M m_ j = m m_ j) (h : ∀ c, c ≠ m_low_ → c ≠ m_high_ → c ≠ m_marks_ → c ≠ m_treeOf_ → c ≠ m_ → M c = m c) : M = r_m m lo hi mk to tm rm := by
  funext c
  by_cases h0 : c = m_low_
  · rw [h0, r0]; rfl
  by_cases h1 : c = m_high_
  · rw [h1, r1]; rfl
  by_cases h2 : c = m_marks_
  · rw [h2, r2]; rfl
  by_cases h3 : c = m_treeOf_
  · rw [h3, r3]; rfl
  by_cases h4 : c = m_
  · funext j
    rw [h4]
    by_cases z0 : j = 32
    · rw [z0, f0]; rfl
    by_cases z1 : j = 35
    · rw [z1, f1]; rfl
    rw [o0 j z0 z1, r_m_om_ z0 z1]
  rw [h c h0 h1 h2 h3 h4, r_m_ne h0 h1 h2 h3 h4]
theorem r_m_rlo {m : cw_M} {lo hi mk to : Int → Int} {tm rm : Int} {f : Int → Int} : cw_row (r_m m lo hi mk to tm rm) m_low_ f = r_m m f hi mk to tm rm := by
  refine r_m_x rfl rfl rfl rfl rfl rfl (fun j z0 z1 => by rw [cw_row_ne (by decide), r_m_om_ z0 z1]) (fun c h0 h1 h2 h3 h4 => by rw [cw_row_ne h0, r_m_ne h0 h1 h2 h3 h4])
theorem r_m_plo {m : cw_M} {lo hi mk to : Int → Int} {tm rm : Int} {i v : Int} : cw_put (r_m m lo hi mk to tm rm) m_low_ i v = r_m m (cw_up lo i v) hi mk to tm rm := by
  rw [cw_put_row, r_m_rlo, r_m_lo]
theorem r_m_rhi {m : cw_M} {lo hi mk to : Int → Int} {tm rm : Int} {f : Int → Int} : cw_row (r_m m lo hi mk to tm rm) m_high_ f = r_m m lo f mk to tm rm := by
  refine r_m_x rfl rfl rfl rfl rfl rfl (fun j z0 z1 => by rw [cw_row_ne (by decide), r_m_om_ z0 z1]) (fun c h0 h1 h2 h3 h4 => by rw [cw_row_ne h1, r_m_ne h0 h1 h2 h3 h4])
theorem r_m_phi {m : cw_M} {lo hi mk to : Int → Int} {tm rm : Int} {i v : Int} : cw_put (r_m m lo hi mk to tm rm) m_high_ i v = r_m m lo (cw_up hi i v) mk to tm rm := by
  rw [cw_put_row, r_m_rhi, r_m_hi]
theorem r_m_rmk {m : cw_M} {lo hi mk to : Int → Int} {tm rm : Int} {f : Int → Int} : cw_row (r_m m lo hi mk to tm rm) m_marks_ f = r_m m lo hi f to tm rm := by
  refine r_m_x rfl rfl rfl rfl rfl rfl (fun j z0 z1 => by rw [cw_row_ne (by decide), r_m_om_ z0 z1]) (fun c h0 h1 h2 h3 h4 => by rw [cw_row_ne h2, r_m_ne h0 h1 h2 h3 h4])
theorem r_m_pmk {m : cw_M} {lo hi mk to : Int → Int} {tm rm : Int} {i v : Int} : cw_put (r_m m lo hi mk to tm rm) m_marks_ i v = r_m m lo hi (cw_up mk i v) to tm rm := by
  rw [cw_put_row, r_m_rmk, r_m_mk]
theorem r_m_rto {m : cw_M} {lo hi mk to : Int → Int} {tm rm : Int} {f : Int → Int} : cw_row (r_m m lo hi mk to tm rm) m_treeOf_ f = r_m m lo hi mk f tm rm := by
  refine r_m_x rfl rfl rfl rfl rfl rfl (fun j z0 z1 => by rw [cw_row_ne (by decide), r_m_om_ z0 z1]) (fun c h0 h1 h2 h3 h4 => by rw [cw_row_ne h3, r_m_ne h0 h1 h2 h3 h4])
theorem r_m_pto {m : cw_M} {lo hi mk to : Int → Int} {tm rm : Int} {i v : Int} : cw_put (r_m m lo hi mk to tm rm) m_treeOf_ i v = r_m m lo hi mk (cw_up to i v) tm rm := by
  rw [cw_put_row, r_m_rto, r_m_to]
theorem r_m_ftm {m : cw_M} {lo hi mk to : Int → Int} {tm rm : Int} {v : Int} : cw_put (r_m m lo hi mk to tm rm) m_ 32 v = r_m m lo hi mk to v rm := by
  refine r_m_x rfl rfl rfl rfl rfl rfl (fun j z0 z1 => by rw [cw_put_off z0, r_m_om_ z0 z1]) (fun c h0 h1 h2 h3 h4 => by rw [cw_put_ne h4, r_m_ne h0 h1 h2 h3 h4])
theorem r_m_frm {m : cw_M} {lo hi mk to : Int → Int} {tm rm : Int} {v : Int} : cw_put (r_m m lo hi mk to tm rm) m_ 35 v = r_m m lo hi mk to tm v := by
  refine r_m_x rfl rfl rfl rfl rfl rfl (fun j z0 z1 => by rw [cw_put_off z1, r_m_om_ z0 z1]) (fun c h0 h1 h2 h3 h4 => by rw [cw_put_ne h4, r_m_ne h0 h1 h2 h3 h4])
theorem r_m_2 {m : cw_M} {lo hi mk to : Int → Int} {tm rm : Int} {lo' hi' mk' to' : Int → Int} {tm' rm' : Int} : r_m (r_m m lo hi mk to tm rm) lo' hi' mk' to' tm' rm' = r_m m lo' hi' mk' to' tm' rm' := by
  refine r_m_x rfl rfl rfl rfl rfl rfl (fun j z0 z1 => by rw [r_m_om_ z0 z1, r_m_om_ z0 z1]) (fun c h0 h1 h2 h3 h4 => by rw [r_m_ne h0 h1 h2 h3 h4, r_m_ne h0 h1 h2 h3 h4])
theorem r_m_self {m : cw_M} : r_m m (m m_low_) (m m_high_) (m m_marks_) (m m_treeOf_) (m m_ 32) (m m_ 35) = m := by
  refine (r_m_x rfl rfl rfl rfl rfl rfl (fun _ _ _ => rfl) (fun _ _ _ _ _ _ => rfl)).symm
/-- a tree is a reading: no join lies above one with a greater mark -/
def t_P (lo hi mk : Int → Int) (n t : Int) : Prop := ∀ j, 0 ≤ j → j < n → ∀ i, lo (6 * t + j) ≤ i → i < hi (6 * t + j) → mk i ≤ mk j
noncomputable def t_rl (P : Int → Prop) : Nat → List Int
  | 0 => []
  | k + 1 => t_rl P k ++ (@ite _ (P k) (Classical.propDecidable _) [(k : Int)] [])
theorem t_rl1 {P : Int → Prop} {k : Nat} (h : P k) : t_rl P (k + 1) = t_rl P k ++ [(k : Int)] := by
  show t_rl P k ++ _ = _
  rw [@if_pos _ (Classical.propDecidable _) h]
theorem t_rl0 {P : Int → Prop} {k : Nat} (h : ¬ P k) : t_rl P (k + 1) = t_rl P k := by
  show t_rl P k ++ _ = _
  rw [@if_neg _ (Classical.propDecidable _) h, List.append_nil]
theorem t_rll {P : Int → Prop} : ∀ k : Nat, (t_rl P k).length ≤ k
  | 0 => Nat.le_refl 0
  | k + 1 => by
    have := t_rll (P := P) k
    by_cases h : P k
    · rw [t_rl1 h, List.length_append]; simp; omega
    · rw [t_rl0 h]; omega
theorem t_rlm {P : Int → Prop} : ∀ (k : Nat) {x : Int}, x ∈ t_rl P k → (0 ≤ x ∧ x < k) ∧ P x
  | 0, x, h => by cases h
  | k + 1, x, h => by
    by_cases hp : P k
    · rw [t_rl1 hp, List.mem_append] at h
      rcases h with h | h
      · have := t_rlm k h; exact ⟨by omega, this.2⟩
      · rw [List.mem_singleton] at h; subst h; exact ⟨by omega, hp⟩
    · rw [t_rl0 hp] at h
      have := t_rlm k h; exact ⟨by omega, this.2⟩
theorem t_rlc {P P' : Int → Prop} : ∀ (k : Nat), (∀ x : Int, 0 ≤ x → x < k → (P x ↔ P' x)) → t_rl P k = t_rl P' k
  | 0, _ => rfl
  | k + 1, h => by
    have e := t_rlc k (fun x a b => h x a (by omega))
    have hk := h k (by omega) (by omega)
    by_cases hp : P k
    · rw [t_rl1 hp, t_rl1 (hk.mp hp), e]
    · rw [t_rl0 hp, t_rl0 (fun q => hp (hk.mpr q)), e]
def t_g (l : List Int) (i : Int) : Int := l.getD i.toNat 0
theorem t_g1 {l : List Int} {x i : Int} (h : 0 ≤ i ∧ i < l.length) : t_g (l ++ [x]) i = t_g l i := by
  unfold t_g
  rw [List.getD_eq_getElem?_getD, List.getD_eq_getElem?_getD, List.getElem?_append_left (by omega)]
theorem t_g2 {l : List Int} {x : Int} : t_g (l ++ [x]) l.length = x := by
  unfold t_g
  rw [List.getD_eq_getElem?_getD, List.getElem?_append_right (by omega)]
  simp
theorem t_gm {l : List Int} {i : Int} (h : 0 ≤ i ∧ i < l.length) : t_g l i ∈ l := by
  unfold t_g
  rw [List.getD_eq_getElem?_getD, List.getElem?_eq_getElem (by omega)]
  exact List.getElem_mem _
theorem M_isReading {d : Nat} {m : cw_M} {Q : Option cw_V → cw_M → Prop} (hm : la_ok m) (hn : 0 ≤ m m_kept_ 46 ∧ m m_kept_ 46 ≤ 7) {t : Int} (ht : 0 ≤ t ∧ t < 132) (hlh : ∀ j, 0 ≤ j → j < m m_kept_ 46 - 1 → 0 ≤ m m_low_ (6 * t + j) ∧ m m_low_ (6 * t + j) ≤ m m_high_ (6 * t + j) ∧ m m_high_ (6 * t + j) ≤ 6) (h1 : t_P (m m_low_) (m m_high_) (m m_marks_) (m m_kept_ 46 - 1) t → Q (some (vi 1)) m) (h0 : ¬ t_P (m m_low_) (m m_high_) (m m_marks_) (m m_kept_ 46 - 1) t → Q (some (vi 0)) m) : cw_C (d + 2) k_M_isReading [vr m_, vi t] m Q := by
  have lo : ∀ (r : Nat) (j is : Int) (w4 : cw_V), 7 < j + r → (0 ≤ j ∧ j ≤ 7) → ((is = 1 ∧ (∀ j', 0 ≤ j' → j' < j → ∀ i, m m_low_ (6 * t + j') ≤ i → i < m m_high_ (6 * t + j') → m m_marks_ i ≤ m m_marks_ j')) ∨ (is = 0 ∧ ¬ t_P (m m_low_) (m m_high_) (m m_marks_) (m m_kept_ 46 - 1) t)) → cw_R (d + 2) k_M_isReading 4 [vr m_, vi t, vi is, vi j, w4] [] m Q := by
    intro r
    induction r with
    | zero =>
      intro j is w4 hr hj hI
      omega
    | succ r ih =>
      intro j is w4 hr hj hI
      have li : ∀ (r : Nat) (i is : Int), m m_high_ (6 * t + j) < i + r → (j < m m_kept_ 46 - 1) → (m m_low_ (6 * t + j) ≤ i) → (i ≤ m m_high_ (6 * t + j)) → ((is = 1 ∧ (∀ j', 0 ≤ j' → j' < j → ∀ i, m m_low_ (6 * t + j') ≤ i → i < m m_high_ (6 * t + j') → m m_marks_ i ≤ m m_marks_ j') ∧ ∀ i', m m_low_ (6 * t + j) ≤ i' → i' < i → m m_marks_ i' ≤ m m_marks_ j) ∨ (is = 0 ∧ ¬ t_P (m m_low_) (m m_high_) (m m_marks_) (m m_kept_ 46 - 1) t)) → cw_R (d + 2) k_M_isReading 29 [vr m_, vi t, vi is, vi j, vi i] [] m Q := by
        intro r
        induction r with
        | zero =>
          intro i is hr hjn hi0 hi1 hJ
          omega
        | succ r ihi =>
          intro i is hr hjn hi0 hi1 hJ
          have hl := hlh j (by omega) hjn
          refine la_go_R hm 29 [4, 29] ?_
          refine And.intro (show -2147483648 ≤ 6 * t ∧ 6 * t < 2147483648 by omega) ?_
          refine And.intro (show -2147483648 ≤ (6 * t) + j ∧ (6 * t) + j < 2147483648 by omega) ?_
          refine And.intro (show 0 ≤ (6 * t) + j ∧ (6 * t) + j < 792 by omega) ?_
          refine And.intro (fun (c1 : m m_high_ ((6 * t) + j) ≤ i) => ?_) (fun (c1 : ¬ (m m_high_ ((6 * t) + j) ≤ i)) => ?_)
          · refine And.intro (show -2147483648 ≤ j + 1 ∧ j + 1 < 2147483648 by omega) ?_
            show cw_R _ _ 4 [vr m_, vi t, vi is, vi (j + 1), vi i] [] (m) _
            refine ih _ _ _ (by omega) (by omega) ?_
            rcases hJ with ⟨h, hJ, hJ2⟩ | hJ
            · refine Or.inl ⟨h, fun j' a b => ?_⟩
              by_cases e : j' = j
              · rw [e]; exact fun i' x y => hJ2 i' x (by omega)
              · exact hJ j' a (by omega)
            · exact Or.inr hJ
          · refine And.intro (fun (c2 : is = 0) => ?_) (fun (c2 : ¬ (is = 0)) => ?_)
            · refine And.intro (show -2147483648 ≤ i + 1 ∧ i + 1 < 2147483648 by omega) ?_
              show cw_R _ _ 29 [vr m_, vi t, vi 0, vi j, vi (i + 1)] [] (m) _
              refine ihi _ _ (by omega) hjn (by omega) (by omega) (Or.inr ⟨rfl, ?_⟩)
              rcases hJ with ⟨h, hJ, hJ2⟩ | ⟨-, h⟩
              · exact fun q => by have := q j (by omega) (by omega) i (by omega) (by omega); omega
              · exact h
            · refine And.intro (show 0 ≤ i ∧ i < 6 by omega) ?_
              refine And.intro (show 0 ≤ j ∧ j < 6 by omega) ?_
              refine And.intro (fun (c3 : m m_marks_ j < m m_marks_ i) => ?_) (fun (c3 : ¬ (m m_marks_ j < m m_marks_ i)) => ?_)
              · refine And.intro (show -2147483648 ≤ i + 1 ∧ i + 1 < 2147483648 by omega) ?_
                show cw_R _ _ 29 [vr m_, vi t, vi 0, vi j, vi (i + 1)] [] (m) _
                refine ihi _ _ (by omega) hjn (by omega) (by omega) (Or.inr ⟨rfl, ?_⟩)
                rcases hJ with ⟨h, hJ, hJ2⟩ | ⟨-, h⟩
                · exact fun q => by have := q j (by omega) (by omega) i (by omega) (by omega); omega
                · exact h
              · refine And.intro (show -2147483648 ≤ i + 1 ∧ i + 1 < 2147483648 by omega) ?_
                show cw_R _ _ 29 [vr m_, vi t, vi 1, vi j, vi (i + 1)] [] (m) _
                rcases hJ with ⟨-, hJ, hJ2⟩ | ⟨h, -⟩
                · refine ihi _ _ (by omega) hjn (by omega) (by omega) (Or.inl ⟨rfl, hJ, fun i' a b => ?_⟩)
                  by_cases e : i' = i
                  · rw [e]; omega
                  · exact hJ2 i' a (by omega)
                · omega
      refine la_go_R hm 18 [4, 29] ?_
      show cw_C _ _ [vr m_] (m) _
      refine M_joinMany hm hn ⟨hm, ?_⟩
      refine And.intro (fun (c1 : max 0 (m m_kept_ 46 - 1) ≤ j) => ?_) (fun (c1 : ¬ (max 0 (m m_kept_ 46 - 1) ≤ j)) => ?_)
      · refine And.intro (show is = 0 ∨ is = 1 by rcases hI with ⟨h, -⟩ | ⟨h, -⟩ <;> omega) ?_
        show Q (some (vi is)) (m)
        rcases hI with ⟨h, hI⟩ | ⟨h, hI⟩
        · subst h; exact h1 (fun j' a b => hI j' a (by omega))
        · subst h; exact h0 hI
      · refine And.intro (fun (c2 : is = 0) => ?_) (fun (c2 : ¬ (is = 0)) => ?_)
        · refine And.intro (show is = 0 ∨ is = 1 by rcases hI with ⟨h, -⟩ | ⟨h, -⟩ <;> omega) ?_
          show Q (some (vi is)) (m)
          rcases hI with ⟨h, hI⟩ | ⟨h, hI⟩
          · subst h; exact h1 (fun j' a b => hI j' a (by omega))
          · subst h; exact h0 hI
        · refine And.intro (show -2147483648 ≤ 6 * t ∧ 6 * t < 2147483648 by omega) ?_
          refine And.intro (show -2147483648 ≤ (6 * t) + j ∧ (6 * t) + j < 2147483648 by omega) ?_
          refine And.intro (show 0 ≤ (6 * t) + j ∧ (6 * t) + j < 792 by omega) ?_
          show cw_R _ _ 29 [vr m_, vi t, vi is, vi j, vi (m m_low_ ((6 * t) + j))] [] (m) _
          have hl := hlh j (by omega) (by omega)
          refine li ((m m_high_ (6 * t + j) - m m_low_ (6 * t + j)).toNat + 1) _ _ (by omega) (by omega) (by omega) (by omega) ?_
          rcases hI with ⟨h, hI⟩ | hI
          · exact Or.inl ⟨h, hI, fun i' a b => by omega⟩
          · exact Or.inr hI
  refine la_go_C hm 7 [4] ?_
  show cw_R _ _ 4 [vr m_, vi t, vi 1, vi 0, none] [] (m) _
  exact lo 8 _ _ _ (by omega) (by omega) (Or.inl ⟨rfl, fun j' a b => by omega⟩)
