/-! The reference splits its tape (wip/whole/tools/m63.py). -/
def s_m (m : cw_M) (cd vl pl : Int → Int) (tk : Int) : cw_M := fun c => if c = m_code_ then cd else if c = m_value_ then vl else if c = m_placed_ then pl else if c = m_ then (fun j => if j = 18 then tk else m m_ j) else m c
theorem s_m_ne {m : cw_M} {cd vl pl : Int → Int} {tk : Int} {c : Int} (h0 : c ≠ m_code_) (h1 : c ≠ m_value_) (h2 : c ≠ m_placed_) (h3 : c ≠ m_) : s_m m cd vl pl tk c = m c := by
  unfold s_m; rw [if_neg h0, if_neg h1, if_neg h2, if_neg h3]
theorem s_m_cd {m : cw_M} {cd vl pl : Int → Int} {tk : Int} : s_m m cd vl pl tk m_code_ = cd := rfl
theorem s_m_vl {m : cw_M} {cd vl pl : Int → Int} {tk : Int} : s_m m cd vl pl tk m_value_ = vl := rfl
theorem s_m_pl {m : cw_M} {cd vl pl : Int → Int} {tk : Int} : s_m m cd vl pl tk m_placed_ = pl := rfl
theorem s_m_om_ {m : cw_M} {cd vl pl : Int → Int} {tk : Int} {j : Int} (h0 : j ≠ 18) : s_m m cd vl pl tk m_ j = m m_ j := by
  show (if j = 18 then tk else m m_ j) = _
  rw [if_neg h0]
theorem s_m_ok {m : cw_M} {cd vl pl : Int → Int} {tk : Int} (hm : la_ok m) : la_ok (s_m m cd vl pl tk) := by
  refine ⟨by rw [s_m_ne (by decide) (by decide) (by decide) (by decide)]; exact hm.1, fun e he => ?_⟩
  obtain ⟨z1, h2, -, z4⟩ := la_lok e he
  have n0 : e.1 ≠ m_code_ := fun q => by rw [q] at h2; revert h2; decide
  have n1 : e.1 ≠ m_value_ := fun q => by rw [q] at h2; revert h2; decide
  have n2 : e.1 ≠ m_placed_ := fun q => by rw [q] at h2; revert h2; decide
  by_cases q0 : e.1 = m_
  · rw [q0, s_m_om_ (fun q => by rw [q0, q] at z4; cases z4), ← q0]; exact hm.2 e he
  rw [s_m_ne n0 n1 n2 q0]; exact hm.2 e he
theorem s_m_x {m M : cw_M} {cd vl pl : Int → Int} {tk : Int} (r0 : M m_code_ = cd) (r1 : M m_value_ = vl) (r2 : M m_placed_ = pl) (f0 : M m_ 18 = tk) (o0 : ∀ j, j ≠ 18 → M m_ j = m m_ j) (h : ∀ c, c ≠ m_code_ → c ≠ m_value_ → c ≠ m_placed_ → c ≠ m_ → M c = m c) : M = s_m m cd vl pl tk := by
  funext c
  by_cases h0 : c = m_code_
  · rw [h0, r0]; rfl
  by_cases h1 : c = m_value_
  · rw [h1, r1]; rfl
  by_cases h2 : c = m_placed_
  · rw [h2, r2]; rfl
  by_cases h3 : c = m_
  · funext j
    rw [h3]
    by_cases z0 : j = 18
    · rw [z0, f0]; rfl
    rw [o0 j z0, s_m_om_ z0]
  rw [h c h0 h1 h2 h3, s_m_ne h0 h1 h2 h3]
theorem s_m_rcd {m : cw_M} {cd vl pl : Int → Int} {tk : Int} {f : Int → Int} : cw_row (s_m m cd vl pl tk) m_code_ f = s_m m f vl pl tk := by
  refine s_m_x rfl rfl rfl rfl (fun j z0 => by rw [cw_row_ne (by decide), s_m_om_ z0]) (fun c h0 h1 h2 h3 => by rw [cw_row_ne h0, s_m_ne h0 h1 h2 h3])
theorem s_m_pcd {m : cw_M} {cd vl pl : Int → Int} {tk : Int} {i v : Int} : cw_put (s_m m cd vl pl tk) m_code_ i v = s_m m (cw_up cd i v) vl pl tk := by
  rw [cw_put_row, s_m_rcd, s_m_cd]
theorem s_m_rvl {m : cw_M} {cd vl pl : Int → Int} {tk : Int} {f : Int → Int} : cw_row (s_m m cd vl pl tk) m_value_ f = s_m m cd f pl tk := by
  refine s_m_x rfl rfl rfl rfl (fun j z0 => by rw [cw_row_ne (by decide), s_m_om_ z0]) (fun c h0 h1 h2 h3 => by rw [cw_row_ne h1, s_m_ne h0 h1 h2 h3])
theorem s_m_pvl {m : cw_M} {cd vl pl : Int → Int} {tk : Int} {i v : Int} : cw_put (s_m m cd vl pl tk) m_value_ i v = s_m m cd (cw_up vl i v) pl tk := by
  rw [cw_put_row, s_m_rvl, s_m_vl]
theorem s_m_rpl {m : cw_M} {cd vl pl : Int → Int} {tk : Int} {f : Int → Int} : cw_row (s_m m cd vl pl tk) m_placed_ f = s_m m cd vl f tk := by
  refine s_m_x rfl rfl rfl rfl (fun j z0 => by rw [cw_row_ne (by decide), s_m_om_ z0]) (fun c h0 h1 h2 h3 => by rw [cw_row_ne h2, s_m_ne h0 h1 h2 h3])
theorem s_m_ppl {m : cw_M} {cd vl pl : Int → Int} {tk : Int} {i v : Int} : cw_put (s_m m cd vl pl tk) m_placed_ i v = s_m m cd vl (cw_up pl i v) tk := by
  rw [cw_put_row, s_m_rpl, s_m_pl]
theorem s_m_ftk {m : cw_M} {cd vl pl : Int → Int} {tk : Int} {v : Int} : cw_put (s_m m cd vl pl tk) m_ 18 v = s_m m cd vl pl v := by
  refine s_m_x rfl rfl rfl rfl (fun j z0 => by rw [cw_put_off z0, s_m_om_ z0]) (fun c h0 h1 h2 h3 => by rw [cw_put_ne h3, s_m_ne h0 h1 h2 h3])
theorem s_m_2 {m : cw_M} {cd vl pl : Int → Int} {tk : Int} {cd' vl' pl' : Int → Int} {tk' : Int} : s_m (s_m m cd vl pl tk) cd' vl' pl' tk' = s_m m cd' vl' pl' tk' := by
  refine s_m_x rfl rfl rfl rfl (fun j z0 => by rw [s_m_om_ z0, s_m_om_ z0]) (fun c h0 h1 h2 h3 => by rw [s_m_ne h0 h1 h2 h3, s_m_ne h0 h1 h2 h3])
theorem s_m_self {m : cw_M} : s_m m (m m_code_) (m m_value_) (m m_placed_) (m m_ 18) = m := by
  refine (s_m_x rfl rfl rfl rfl (fun _ _ => rfl) (fun _ _ _ _ _ => rfl)).symm
theorem k_i2b {x : Int} (h : 0 ≤ x ∧ x ≤ 255) : (x < 128 ∧ cw_i2b x = x) ∨ (128 ≤ x ∧ cw_i2b x = x - 256) := by unfold cw_i2b; omega
theorem k_255 : ∀ x : Fin 256, cw_iand (cw_i2b x.val) 255 = x.val := by decide +kernel
theorem k_255x {x : Int} (h : 0 ≤ x ∧ x ≤ 255) : cw_iand (cw_i2b x) 255 = x := by
  have e : x = ((⟨x.toNat, by omega⟩ : Fin 256).val : Int) := by show x = (x.toNat : Int); omega
  have := k_255 ⟨x.toNat, by omega⟩
  rw [← e] at this
  exact this
theorem k_sm2 {x : Int} (h : 0 ≤ x ∧ x ≤ 255) : (97 ≤ cw_i2b x ∧ cw_i2b x ≤ 122) ↔ k_sm x = true := by
  rw [k_smt]; have := k_i2b h; omega
theorem k_dg2 {x : Int} (h : 0 ≤ x ∧ x ≤ 255) : (48 ≤ cw_i2b x ∧ cw_i2b x ≤ 57) ↔ k_dg x = true := by
  rw [k_dgt]; have := k_i2b h; omega
/-- the table of words, from a place on -/
def k_tab (wt : Int → Int) : Int → List (List Int) → Prop
  | o, [] => o = 133
  | o, x :: t => (∀ i : Nat, i < x.length → wt (o + i) = x.getD i 0 ∧ x.getD i 0 ≠ 32 ∧ 0 ≤ x.getD i 0 ∧ x.getD i 0 < 128) ∧ wt (o + x.length) = 32 ∧ 0 ≤ o ∧ o + x.length < 133 ∧ k_tab wt (o + x.length + 1) t
theorem M_isSmall {d : Nat} {m : cw_M} {Q : Option cw_V → cw_M → Prop} (hm : la_ok m) {v : Int} (h1 : 97 ≤ v ∧ v ≤ 122 → Q (some (vi 1)) m) (h0 : ¬ (97 ≤ v ∧ v ≤ 122) → Q (some (vi 0)) m) : cw_C d k_M_isSmall [vi v] m Q := by
  refine la_go_C hm 12 [] ?_
  refine And.intro (fun (c1 : v < 97) => ?_) (fun (c1 : ¬ (v < 97)) => ?_)
  · refine And.intro (Or.inl rfl) ?_
    show Q (some (vi 0)) (m)
    first | exact h1 (by omega) | exact h0 (by omega)
  · refine And.intro (fun (c2 : 122 < v) => ?_) (fun (c2 : ¬ (122 < v)) => ?_)
    · refine And.intro (Or.inl rfl) ?_
      show Q (some (vi 0)) (m)
      first | exact h1 (by omega) | exact h0 (by omega)
    · refine And.intro (Or.inr rfl) ?_
      show Q (some (vi 1)) (m)
      first | exact h1 (by omega) | exact h0 (by omega)
theorem M_isDigit {d : Nat} {m : cw_M} {Q : Option cw_V → cw_M → Prop} (hm : la_ok m) {v : Int} (h1 : 48 ≤ v ∧ v ≤ 57 → Q (some (vi 1)) m) (h0 : ¬ (48 ≤ v ∧ v ≤ 57) → Q (some (vi 0)) m) : cw_C d k_M_isDigit [vi v] m Q := by
  refine la_go_C hm 12 [] ?_
  refine And.intro (fun (c1 : v < 48) => ?_) (fun (c1 : ¬ (v < 48)) => ?_)
  · refine And.intro (Or.inl rfl) ?_
    show Q (some (vi 0)) (m)
    first | exact h1 (by omega) | exact h0 (by omega)
  · refine And.intro (fun (c2 : 57 < v) => ?_) (fun (c2 : ¬ (57 < v)) => ?_)
    · refine And.intro (Or.inl rfl) ?_
      show Q (some (vi 0)) (m)
      first | exact h1 (by omega) | exact h0 (by omega)
    · refine And.intro (Or.inr rfl) ?_
      show Q (some (vi 1)) (m)
      first | exact h1 (by omega) | exact h0 (by omega)
theorem M_wordOf {d : Nat} {m : cw_M} {Q : Option cw_V → cw_M → Prop} (hm : la_ok m) (htab : k_tab (m m_words_) 0 k_WL) {b : Int → Int} {n s e : Int} (hb : ∀ i, 0 ≤ i → i < n → (0 ≤ b i ∧ b i ≤ 255) ∧ m m_tape_ i = cw_i2b (b i)) (hs : 0 ≤ s ∧ s < e ∧ e ≤ n ∧ n ≤ 400) (h : Q (some (vi (k_wd b s e k_WL 1))) m) : cw_C d k_M_wordOf [vr m_, vi s, vi e] m Q := by
  have main : ∀ (ws : List (List Int)) (o w : Int) (w5 w6 w7 : cw_V), k_tab (m m_words_) o ws → Q (some (vi (k_wd b s e ws w))) m → (0 ≤ w ∧ w + ws.length < 1000) → cw_R d k_M_wordOf 5 [vr m_, vi s, vi e, vi w, vi o, w5, w6, w7] [] m Q := by
    intro ws
    induction ws with
    | nil =>
      intro o w w5 w6 w7 ht hQ hw
      have ht : o = 133 := ht
      refine la_go_R hm 10 [18] ?_
      refine And.intro (fun (c1 : 133 ≤ o) => ?_) (fun (c1 : ¬ (133 ≤ o)) => ?_)
      · show Q (some (vi 0)) (m)
        exact hQ
      · show cw_R _ _ 18 [vr m_, vi s, vi e, vi w, vi o, vi 0, w6, w7] [] (m) _
        exfalso
        omega
    | cons x t ihw =>
      intro o w w5 w6 w7 ht hQ hw
      have hwl : w + (x :: t).length = w + 1 + t.length := by rw [List.length_cons]; omega
      have ht : (∀ i : Nat, i < x.length → m m_words_ (o + i) = x.getD i 0 ∧ x.getD i 0 ≠ 32 ∧ 0 ≤ x.getD i 0 ∧ x.getD i 0 < 128) ∧ m m_words_ (o + x.length) = 32 ∧ 0 ≤ o ∧ o + x.length < 133 ∧ k_tab (m m_words_) (o + x.length + 1) t := ht
      have ho := ht.2.2
      have l57 : ∀ (r : Nat) (i same : Int), (x.length : Int) < i + r → (0 ≤ i ∧ i ≤ (x.length : Int)) → ((same = 1 ∧ e - s = (x.length : Int) ∧ ∀ i' : Nat, (i' : Int) < i → b (s + i') = x.getD i' 0) ∨ (same = 0 ∧ k_is b s e x = false)) → cw_R (d) k_M_wordOf 57 [vr m_, vi s, vi e, vi w, vi o, vi (x.length : Int), vi same, vi i] [] m Q := by
        intro r
        induction r with
        | zero =>
          intro i same hr hi0 hI
          omega
        | succ r ih =>
          intro i same hr hi0 hI
          refine la_go_R hm 26 [5, 57] ?_
          refine And.intro (fun (c1 : (x.length : Int) ≤ i) => ?_) (fun (c1 : ¬ ((x.length : Int) ≤ i)) => ?_)
          · refine And.intro (fun (c2 : same = 0) => ?_) (fun (c2 : ¬ (same = 0)) => ?_)
            · refine And.intro (show -2147483648 ≤ (x.length : Int) + 1 ∧ (x.length : Int) + 1 < 2147483648 by omega) ?_
              refine And.intro (show -2147483648 ≤ o + ((x.length : Int) + 1) ∧ o + ((x.length : Int) + 1) < 2147483648 by omega) ?_
              refine And.intro (show -2147483648 ≤ w + 1 ∧ w + 1 < 2147483648 by omega) ?_
              show cw_R _ _ 5 [vr m_, vi s, vi e, vi (w + 1), vi (o + ((x.length : Int) + 1)), vi (x.length : Int), vi same, vi i] [] (m) _
              have hk : k_is b s e x = false := by
                rcases hI with ⟨h, hI⟩ | ⟨h, hI⟩
                · omega
                · exact hI
              have z : k_wd b s e (x :: t) w = k_wd b s e t (w + 1) := by show (if k_is b s e x = true then w else k_wd b s e t (w + 1)) = _; rw [if_neg (by rw [hk]; decide)]
              rw [z] at hQ
              rw [show o + ((x.length : Int) + 1) = o + (x.length : Int) + 1 by omega]
              exact ihw _ _ _ _ _ ht.2.2.2.2 hQ (by omega)
            · show Q (some (vi w)) (m)
              have hk : k_is b s e x = true := by
                rcases hI with ⟨h, h2, hI⟩ | ⟨h, hI⟩
                · exact k_ist.mpr ⟨h2, fun i' hi' => by have := hI i' (by omega); rw [this]⟩
                · omega
              have z : k_wd b s e (x :: t) w = w := by show (if k_is b s e x = true then w else k_wd b s e t (w + 1)) = _; rw [if_pos hk]
              rw [z] at hQ
              exact hQ
          · refine And.intro (fun (c3 : same = 0) => ?_) (fun (c3 : ¬ (same = 0)) => ?_)
            · refine And.intro (fun (c4 : same = 0) => ?_) (fun (c4 : ¬ (same = 0)) => ?_)
              · refine And.intro (show -2147483648 ≤ (x.length : Int) + 1 ∧ (x.length : Int) + 1 < 2147483648 by omega) ?_
                refine And.intro (show -2147483648 ≤ o + ((x.length : Int) + 1) ∧ o + ((x.length : Int) + 1) < 2147483648 by omega) ?_
                refine And.intro (show -2147483648 ≤ w + 1 ∧ w + 1 < 2147483648 by omega) ?_
                show cw_R _ _ 5 [vr m_, vi s, vi e, vi (w + 1), vi (o + ((x.length : Int) + 1)), vi (x.length : Int), vi same, vi i] [] (m) _
                have hk : k_is b s e x = false := by
                  rcases hI with ⟨h, hI⟩ | ⟨h, hI⟩
                  · omega
                  · exact hI
                have z : k_wd b s e (x :: t) w = k_wd b s e t (w + 1) := by show (if k_is b s e x = true then w else k_wd b s e t (w + 1)) = _; rw [if_neg (by rw [hk]; decide)]
                rw [z] at hQ
                rw [show o + ((x.length : Int) + 1) = o + (x.length : Int) + 1 by omega]
                exact ihw _ _ _ _ _ ht.2.2.2.2 hQ (by omega)
              · show Q (some (vi w)) (m)
                have hk : k_is b s e x = true := by
                  rcases hI with ⟨h, h2, hI⟩ | ⟨h, hI⟩
                  · exact k_ist.mpr ⟨h2, fun i' hi' => by have := hI i' (by omega); rw [this]⟩
                  · omega
                have z : k_wd b s e (x :: t) w = w := by show (if k_is b s e x = true then w else k_wd b s e t (w + 1)) = _; rw [if_pos hk]
                rw [z] at hQ
                exact hQ
            · refine And.intro (show -2147483648 ≤ o + i ∧ o + i < 2147483648 by omega) ?_
              refine And.intro (show 0 ≤ o + i ∧ o + i < 133 by omega) ?_
              refine And.intro (show -2147483648 ≤ s + i ∧ s + i < 2147483648 by omega) ?_
              refine And.intro (show 0 ≤ s + i ∧ s + i < 400 by rcases hI with ⟨h, h2, hI⟩ | ⟨h, hI⟩ <;> omega) ?_
              refine And.intro (fun (c5 : m m_words_ (o + i) ≠ m m_tape_ (s + i)) => ?_) (fun (c5 : ¬ (m m_words_ (o + i) ≠ m m_tape_ (s + i))) => ?_)
              · refine And.intro (show -2147483648 ≤ i + 1 ∧ i + 1 < 2147483648 by omega) ?_
                show cw_R _ _ 57 [vr m_, vi s, vi e, vi w, vi o, vi (x.length : Int), vi 0, vi (i + 1)] [] (m) _
                have bb := hb (s + i) (by omega) (by omega)
                have ww := ht.1 i.toNat (by omega)
                rw [show o + ((i.toNat : Nat) : Int) = o + i by omega] at ww
                have b2 := k_i2b bb.1
                refine ih _ _ (by omega) (by omega) (Or.inr ⟨rfl, ?_⟩)
                cases hk : k_is b s e x with
                | false => rfl
                | true =>
                  have q := (k_ist.mp hk).2 i.toNat (by omega)
                  rw [show s + ((i.toNat : Nat) : Int) = s + i by omega] at q
                  omega
              · refine And.intro (show -2147483648 ≤ i + 1 ∧ i + 1 < 2147483648 by omega) ?_
                show cw_R _ _ 57 [vr m_, vi s, vi e, vi w, vi o, vi (x.length : Int), vi 1, vi (i + 1)] [] (m) _
                have bb := hb (s + i) (by omega) (by omega)
                have ww := ht.1 i.toNat (by omega)
                rw [show o + ((i.toNat : Nat) : Int) = o + i by omega] at ww
                have b2 := k_i2b bb.1
                refine ih _ _ (by omega) (by omega) ?_
                rcases hI with ⟨h, h2, hI⟩ | ⟨h, hI⟩
                · refine Or.inl ⟨rfl, h2, fun i' hi' => ?_⟩
                  by_cases e2 : (i' : Int) = i
                  · rw [show i' = i.toNat by omega, show s + ((i.toNat : Nat) : Int) = s + i by omega]; omega
                  · exact hI i' (by omega)
                · omega
      have l18 : ∀ (r : Nat) (q : Int) (w6 w7 : cw_V), (x.length : Int) < q + r → (0 ≤ q ∧ q ≤ (x.length : Int)) → cw_R (d) k_M_wordOf 18 [vr m_, vi s, vi e, vi w, vi o, vi q, w6, w7] [] m Q := by
        intro r
        induction r with
        | zero =>
          intro q w6 w7 hr hq0
          omega
        | succ r ih =>
          intro q w6 w7 hr hq0
          have h32 : q = (x.length : Int) → m m_words_ (o + q) = 32 := fun z => by rw [z]; exact ht.2.1
          refine la_go_R hm 21 [18, 57] ?_
          refine And.intro (show -2147483648 ≤ o + q ∧ o + q < 2147483648 by omega) ?_
          refine And.intro (show 0 ≤ o + q ∧ o + q < 133 by omega) ?_
          refine And.intro (fun (c1 : m m_words_ (o + q) = 32) => ?_) (fun (c1 : ¬ (m m_words_ (o + q) = 32)) => ?_)
          · refine And.intro (show -2147483648 ≤ e - s ∧ e - s < 2147483648 by omega) ?_
            refine And.intro (fun (c2 : q ≠ e - s) => ?_) (fun (c2 : ¬ (q ≠ e - s)) => ?_)
            · show cw_R _ _ 57 [vr m_, vi s, vi e, vi w, vi o, vi q, vi 0, vi 0] [] (m) _
              have hq : q = (x.length : Int) := by
                by_cases z : q = (x.length : Int)
                · exact z
                · have ww := ht.1 q.toNat (by omega); rw [show o + ((q.toNat : Nat) : Int) = o + q by omega] at ww; omega
              subst hq
              refine l57 (x.length + 1) 0 0 (by omega) (by omega) (Or.inr ⟨rfl, ?_⟩)
              cases hk : k_is b s e x with
              | false => rfl
              | true => have q := (k_ist.mp hk).1; omega
            · show cw_R _ _ 57 [vr m_, vi s, vi e, vi w, vi o, vi q, vi 1, vi 0] [] (m) _
              have hq : q = (x.length : Int) := by
                by_cases z : q = (x.length : Int)
                · exact z
                · have ww := ht.1 q.toNat (by omega); rw [show o + ((q.toNat : Nat) : Int) = o + q by omega] at ww; omega
              subst hq
              exact l57 (x.length + 1) 0 1 (by omega) (by omega) (Or.inl ⟨rfl, by omega, fun i' hi' => by omega⟩)
          · refine And.intro (show -2147483648 ≤ q + 1 ∧ q + 1 < 2147483648 by omega) ?_
            show cw_R _ _ 18 [vr m_, vi s, vi e, vi w, vi o, vi (q + 1), w6, w7] [] (m) _
            exact ih (q + 1) _ _ (by omega) (by omega)
      refine la_go_R hm 10 [18] ?_
      refine And.intro (fun (c1 : 133 ≤ o) => ?_) (fun (c1 : ¬ (133 ≤ o)) => ?_)
      · show Q (some (vi 0)) (m)
        omega
      · show cw_R _ _ 18 [vr m_, vi s, vi e, vi w, vi o, vi 0, w6, w7] [] (m) _
        exact l18 (x.length + 1) 0 _ _ (by omega) (by omega)
  refine la_go_C hm 7 [5] ?_
  show cw_R _ _ 5 [vr m_, vi s, vi e, vi 1, vi 0, none, none, none] [] (m) _
  exact main k_WL 0 1 _ _ _ htab h (by decide)
