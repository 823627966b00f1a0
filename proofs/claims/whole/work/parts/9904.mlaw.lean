/-! Rows of the tape, laws, by the reference (wip/whole/tools/m104.py). -/
def rb_m (m : cw_M) (l : Int) : cw_M := cw_put (cw_put m m_ 13 0) m_ 6 l
theorem rb_ok {m : cw_M} {l : Int} (hm : la_ok m) : la_ok (rb_m m l) := la_put (la_put hm (by decide) (Or.inl rfl)) (by decide) (Or.inl rfl)
theorem rb_p {m : cw_M} {K : Int → Int} {l v : Int} : cw_put (kr_m (rb_m m l) K) m_ 6 v = kr_m (rb_m m v) K := by
  unfold kr_m rb_m; rw [cw_put_rowc (by decide), cw_put_put]
theorem c_bi {K : Int → Int} {x y z : Int} (hx : 0 ≤ x ∧ x ≤ 255) (hy : 0 ≤ y ∧ y ≤ 255) (hz : 0 ≤ z ∧ z ≤ 255) : (c_be K (cw_i2b x) (cw_i2b y) (cw_i2b z) ↔ c_be K x y z) ∧ (c_be K x y z → cw_i2b x = x ∧ cw_i2b y = y ∧ cw_i2b z = z) := by
  have a := k_i2b hx
  have b := k_i2b hy
  have c := k_i2b hz
  unfold c_be
  omega
theorem k_addr {K : Int → Int} {k j p : Int} (h : 0 ≤ K 46 ∧ K 46 < 7) : 0 ≤ k_add K k j p 46 ∧ k_add K k j p 46 ≤ 7 := by rw [k_add46]; omega
theorem r_w0 {b : Int → Int} {n at_ c l : Int} {f : Nat} {K : Int → Int} (h : ¬ at_ + 3 ≤ n) : r_w b n f at_ K c l = (K, c, l) := by
  cases f with
  | zero => rfl
  | succ f => rw [r_w, if_neg h]
theorem r_w1 {b : Int → Int} {n at_ c l : Int} {f : Nat} {K : Int → Int} (h : at_ + 3 ≤ n) (hc : K 46 < 7 ∧ c_be K (b at_) (b (at_ + 1)) (b (at_ + 2))) : r_w b n (f + 1) at_ K c l = r_w b n f (at_ + 3) (k_add K (b at_) (b (at_ + 1)) (b (at_ + 2))) (c + 1) l := by
  rw [r_w, if_pos h, if_pos hc]
theorem r_w2 {b : Int → Int} {n at_ c l : Int} {f : Nat} {K : Int → Int} (h : at_ + 3 ≤ n) (hc : ¬ (K 46 < 7 ∧ c_be K (b at_) (b (at_ + 1)) (b (at_ + 2)))) : r_w b n (f + 1) at_ K c l = r_w b n f (at_ + 3) K c (l + 1) := by
  rw [r_w, if_pos h, if_neg hc]
/-- a text is laid into the row of things kept -/
def k_lay (K : Int → Int) (t tk : Int) (cd vl : Int → Int) (k : Int) : Int → Int := fun i => if i = 51 + t then tk else if 58 + 400 * t ≤ i ∧ i < 58 + 400 * t + k then cd (i - (58 + 400 * t)) else if 2858 + 400 * t ≤ i ∧ i < 2858 + 400 * t + k then vl (i - (2858 + 400 * t)) else K i
theorem k_lay0 {K : Int → Int} {t tk : Int} {cd vl : Int → Int} : cw_up K (51 + t) tk = k_lay K t tk cd vl 0 := by
  funext i
  unfold k_lay cw_up
  by_cases q : i = 51 + t
  · rw [if_pos q, if_pos q]
  · rw [if_neg q, if_neg q, if_neg (by omega), if_neg (by omega)]
theorem k_lay1 {K : Int → Int} {t tk k : Int} {cd vl : Int → Int} (ht : 0 ≤ t ∧ t ≤ 6) (hk : 0 ≤ k ∧ k < 400) : cw_up (cw_up (k_lay K t tk cd vl k) (58 + 400 * t + k) (cd k)) (2858 + 400 * t + k) (vl k) = k_lay K t tk cd vl (k + 1) := by
  funext i
  by_cases q1 : i = 2858 + 400 * t + k
  · rw [q1, cw_up_eq]; unfold k_lay; rw [if_neg (by omega), if_neg (by omega), if_pos (by omega)]; congr 1; omega
  rw [cw_up_ne q1]
  by_cases q2 : i = 58 + 400 * t + k
  · rw [q2, cw_up_eq]; unfold k_lay; rw [if_neg (by omega), if_pos (by omega)]; congr 1; omega
  rw [cw_up_ne q2]
  unfold k_lay
  by_cases q3 : i = 51 + t
  · rw [if_pos q3, if_pos q3]
  rw [if_neg q3, if_neg q3]
  by_cases q4 : 58 + 400 * t ≤ i ∧ i < 58 + 400 * t + k
  · rw [if_pos q4, if_pos (show 58 + 400 * t ≤ i ∧ i < 58 + 400 * t + (k + 1) by omega)]
  rw [if_neg q4, if_neg (show ¬ (58 + 400 * t ≤ i ∧ i < 58 + 400 * t + (k + 1)) by omega)]
  by_cases q5 : 2858 + 400 * t ≤ i ∧ i < 2858 + 400 * t + k
  · rw [if_pos q5, if_pos (show 2858 + 400 * t ≤ i ∧ i < 2858 + 400 * t + (k + 1) by omega)]
  · rw [if_neg q5, if_neg (show ¬ (2858 + 400 * t ≤ i ∧ i < 2858 + 400 * t + (k + 1)) by omega)]
theorem M_addsX {d : Nat} {m : cw_M} {Q : Option cw_V → cw_M → Prop} {l a : Int} {Kc b : Int → Int} (hm : la_ok (kr_m (rb_m m l) Kc)) (h0 : 0 ≤ Kc 46) (h1 : Kc 46 < 7) (et : m m_tape_ a = cw_i2b (b a) ∧ m m_tape_ (a + 1) = cw_i2b (b (a + 1)) ∧ m m_tape_ (a + 2) = cw_i2b (b (a + 2))) (ci : cw_i2b (b a) = b a ∧ cw_i2b (b (a + 1)) = b (a + 1) ∧ cw_i2b (b (a + 2)) = b (a + 2)) (h : Q none (kr_m (rb_m m l) (k_add Kc (b a) (b (a + 1)) (b (a + 2))))) : cw_C (d + 1) k_M_adds [vr m_, vi (m m_tape_ a), vi (m m_tape_ (a + 1)), vi (m m_tape_ (a + 2))] (kr_m (rb_m m l) Kc) Q := by
  rw [et.1, et.2.1, et.2.2, ci.1, ci.2.1, ci.2.2]
  have ek : (kr_m (rb_m m l) Kc) m_kept_ = Kc := kr_k
  refine M_addsR hm (by rw [ek]; omega) ?_
  rw [ek]
  unfold kr_m at h ⊢
  rw [cw_row_row]
  exact h
theorem M_row40 {d : Nat} {m : cw_M} {Q : Option cw_V → cw_M → Prop} (hm : la_ok m) {n RC RL : Int} {b RK : Int → Int} (hn : 0 ≤ n ∧ n ≤ 400) (hb : ∀ i, 0 ≤ i → i < n → (0 ≤ b i ∧ b i ≤ 255) ∧ m m_tape_ i = cw_i2b (b i)) (h : Q (some (vi RC)) (sd_m (kr_m (rb_m m RL) RK))) (f : Nat) {Kc : Int → Int} {l : Int} {w4 : cw_V} (hf : n ≤ 3 * f) (hk : 0 ≤ Kc 46 ∧ Kc 46 ≤ 7) (hl : 0 ≤ l ∧ l ≤ 1) (hR : r_w b n f 0 Kc 0 l = (RK, RC, RL)) : cw_R (d + 3) k_M_row 40 [vr m_, vi n, vi 0, vi 0, w4] [] (kr_m (rb_m m l) Kc) Q := by
  have lp : ∀ (r : Nat) (a : Int) (Kc : Int → Int) (c l : Int) (w4 : cw_V), n ≤ a + 3 * r → (0 ≤ a ∧ a ≤ n + 2) → (0 ≤ Kc 46 ∧ Kc 46 ≤ 7) → ((0 ≤ c ∧ c ≤ a) ∧ 0 ≤ l ∧ l ≤ a + 1) → (a ≤ 402) → (r_w b n r a Kc c l = (RK, RC, RL)) → cw_R (d + 3) k_M_row 40 [vr m_, vi n, vi c, vi a, w4] [] (kr_m (rb_m m l) Kc) Q := by
    intro r
    induction r with
    | zero =>
      intro a Kc c l w4 hr ha hk hcl hal hR
      have hm2 : la_ok (kr_m (rb_m m l) Kc) := kr_ok (rb_ok hm)
      refine la_go_R hm2 12 [] ?_
      refine And.intro (show -2147483648 ≤ a + 3 ∧ a + 3 < 2147483648 by omega) ?_
      refine br_t (show n < a + 3 by omega) ?_
      show cw_C _ _ [vr m_, vi c] (kr_m (rb_m m l) Kc) _
      refine M_settled hm2 ⟨(sd_ok hm2), ?_⟩
      show Q (some (vi c)) (sd_m (kr_m (rb_m m l) Kc))
      rw [r_w0 (by omega)] at hR
      have e1 := congrArg Prod.fst hR
      have e2 := congrArg (fun z => z.2.1) hR
      have e3 := congrArg (fun z => z.2.2) hR
      have e1 : Kc = RK := e1
      have e2 : c = RC := e2
      have e3 : l = RL := e3
      rw [e1, e2, e3]
      exact h
    | succ r ih =>
      intro a Kc c l w4 hr ha hk hcl hal hR
      have hm2 : la_ok (kr_m (rb_m m l) Kc) := kr_ok (rb_ok hm)
      have ht : a + 3 ≤ n → m m_tape_ a = cw_i2b (b a) ∧ m m_tape_ (a + 1) = cw_i2b (b (a + 1)) ∧ m m_tape_ (a + 2) = cw_i2b (b (a + 2)) := fun z => ⟨(hb a (by omega) (by omega)).2, (hb (a + 1) (by omega) (by omega)).2, (hb (a + 2) (by omega) (by omega)).2⟩
      have cbi := fun (z : a + 3 ≤ n) => c_bi (K := Kc) (hb a (by omega) (by omega)).1 (hb (a + 1) (by omega) (by omega)).1 (hb (a + 2) (by omega) (by omega)).1
      refine la_go_R hm2 72 [40] ?_
      refine And.intro (show -2147483648 ≤ a + 3 ∧ a + 3 < 2147483648 by omega) ?_
      refine And.intro (fun (c21 : n < a + 3) => ?_) (fun (c21 : ¬ (n < a + 3)) => ?_)
      · show cw_C _ _ [vr m_, vi c] (kr_m (rb_m m l) Kc) _
        refine M_settled hm2 ⟨(sd_ok hm2), ?_⟩
        show Q (some (vi c)) (sd_m (kr_m (rb_m m l) Kc))
        rw [r_w0 (by omega)] at hR
        have e1 := congrArg Prod.fst hR
        have e2 := congrArg (fun z => z.2.1) hR
        have e3 := congrArg (fun z => z.2.2) hR
        have e1 : Kc = RK := e1
        have e2 : c = RC := e2
        have e3 : l = RL := e3
        rw [e1, e2, e3]
        exact h
      · show cw_C _ _ [vr m_] (kr_m (rb_m m l) Kc) _
        refine M_many hm2 ⟨hm2, ?_⟩
        refine And.intro (fun (c22 : 7 ≤ Kc 46) => ?_) (fun (c22 : ¬ (7 ≤ Kc 46)) => ?_)
        · refine br_t (show (0 : Int) = 0 by decide) ?_
          refine br_t (show (0 : Int) = 0 by decide) ?_
          refine And.intro (show -2147483648 ≤ c + 0 ∧ c + 0 < 2147483648 by omega) ?_
          refine br_t (show (0 : Int) = 0 by decide) ?_
          refine And.intro (show -2147483648 ≤ l + 1 ∧ l + 1 < 2147483648 by omega) ?_
          have hm23 : la_ok (cw_put (kr_m (rb_m m l) Kc) m_ 6 (l + 1)) := la_put hm2 (by decide) (Or.inl rfl)
          refine And.intro (show -2147483648 ≤ a + 3 ∧ a + 3 < 2147483648 by omega) ?_
          show cw_R _ _ 40 [vr m_, vi n, vi (c + 0), vi (a + 3), vi 0] [] (cw_put (kr_m (rb_m m l) Kc) m_ 6 (l + 1)) _
          rw [rb_p, Int.add_zero]
          refine ih (a + 3) Kc c (l + 1) _ (by omega) (by omega) (by omega) (by omega) (by omega) ?_
          rw [← r_w2 (by omega) (by first | exact fun z => cb z.2 | (intro z; have := z.1; omega))]
          exact hR
        · refine And.intro (show 0 ≤ a ∧ a < 400 by omega) ?_
          refine And.intro (show -2147483648 ≤ a + 1 ∧ a + 1 < 2147483648 by omega) ?_
          refine And.intro (show 0 ≤ a + 1 ∧ a + 1 < 400 by omega) ?_
          refine And.intro (show -2147483648 ≤ a + 2 ∧ a + 2 < 2147483648 by omega) ?_
          refine And.intro (show 0 ≤ a + 2 ∧ a + 2 < 400 by omega) ?_
          show cw_C _ _ [vr m_, vi (m m_tape_ a), vi (m m_tape_ (a + 1)), vi (m m_tape_ (a + 2))] (kr_m (rb_m m l) Kc) _
          refine M_canBe hm2 (fun (b1 : 0 ≤ m m_tape_ (a + 2) ∧ m m_tape_ (a + 2) ≤ 5) (b2 : 0 ≤ m m_tape_ a ∧ m m_tape_ a ≤ 2) (b3 : 0 ≤ m m_tape_ (a + 1) ∧ m m_tape_ (a + 1) ≤ 3) (b4 : 0 < Kc 46 ∨ m m_tape_ a = 0 ∧ m m_tape_ (a + 1) = 0) => ⟨hm2, ?_⟩) (fun (b0 : ¬ ((0 ≤ m m_tape_ (a + 2) ∧ m m_tape_ (a + 2) ≤ 5) ∧ (0 ≤ m m_tape_ a ∧ m m_tape_ a ≤ 2) ∧ (0 ≤ m m_tape_ (a + 1) ∧ m m_tape_ (a + 1) ≤ 3) ∧ (0 < Kc 46 ∨ m m_tape_ a = 0 ∧ m m_tape_ (a + 1) = 0))) => ⟨hm2, ?_⟩)
          · have cb : c_be Kc (b a) (b (a + 1)) (b (a + 2)) := (cbi (by omega)).1.mp (by have e := ht (by omega); rw [← e.1, ← e.2.1, ← e.2.2]; exact ⟨b1, b2, b3, b4⟩)
            have ci := (cbi (by omega)).2 cb
            have et := ht (by omega)
            refine br_f (show ¬ ((1 : Int) = 0) by decide) ?_
            refine br_f (show ¬ ((1 : Int) = 0) by decide) ?_
            refine And.intro (show 0 ≤ a ∧ a < 400 by omega) ?_
            refine And.intro (show -2147483648 ≤ a + 1 ∧ a + 1 < 2147483648 by omega) ?_
            refine And.intro (show 0 ≤ a + 1 ∧ a + 1 < 400 by omega) ?_
            refine And.intro (show -2147483648 ≤ a + 2 ∧ a + 2 < 2147483648 by omega) ?_
            refine And.intro (show 0 ≤ a + 2 ∧ a + 2 < 400 by omega) ?_
            show cw_C _ _ [vr m_, vi (m m_tape_ a), vi (m m_tape_ (a + 1)), vi (m m_tape_ (a + 2))] (kr_m (rb_m m l) Kc) _
            refine M_addsX hm2 (by omega) (by omega) et ci ⟨(kr_ok (rb_ok hm)), ?_⟩
            refine br_f (show ¬ ((1 : Int) = 0) by decide) ?_
            refine And.intro (show -2147483648 ≤ c + 1 ∧ c + 1 < 2147483648 by omega) ?_
            refine br_f (show ¬ ((1 : Int) = 0) by decide) ?_
            refine And.intro (show -2147483648 ≤ l + 0 ∧ l + 0 < 2147483648 by omega) ?_
            have hm24 : la_ok (cw_put (kr_m (rb_m m l) (k_add Kc (b a) (b (a + 1)) (b (a + 2)))) m_ 6 (l + 0)) := la_put (kr_ok (rb_ok hm)) (by decide) (Or.inl rfl)
            refine And.intro (show -2147483648 ≤ a + 3 ∧ a + 3 < 2147483648 by omega) ?_
            show cw_R _ _ 40 [vr m_, vi n, vi (c + 1), vi (a + 3), vi 1] [] (cw_put (kr_m (rb_m m l) (k_add Kc (b a) (b (a + 1)) (b (a + 2)))) m_ 6 (l + 0)) _
            rw [rb_p, Int.add_zero]
            refine ih (a + 3) _ (c + 1) l _ (by omega) (by omega) (k_addr (by omega)) (by omega) (by omega) ?_
            rw [← r_w1 (by omega) ⟨by omega, cb⟩]
            exact hR
          · have cb : ¬ c_be Kc (b a) (b (a + 1)) (b (a + 2)) := fun z => b0 (by have e := ht (by omega); have y := (cbi (by omega)).1.mpr z; rw [← e.1, ← e.2.1, ← e.2.2] at y; exact y)
            refine br_t (show (0 : Int) = 0 by decide) ?_
            refine br_t (show (0 : Int) = 0 by decide) ?_
            refine br_t (show (0 : Int) = 0 by decide) ?_
            refine And.intro (show -2147483648 ≤ c + 0 ∧ c + 0 < 2147483648 by omega) ?_
            refine br_t (show (0 : Int) = 0 by decide) ?_
            refine And.intro (show -2147483648 ≤ l + 1 ∧ l + 1 < 2147483648 by omega) ?_
            have hm25 : la_ok (cw_put (kr_m (rb_m m l) Kc) m_ 6 (l + 1)) := la_put hm2 (by decide) (Or.inl rfl)
            refine And.intro (show -2147483648 ≤ a + 3 ∧ a + 3 < 2147483648 by omega) ?_
            show cw_R _ _ 40 [vr m_, vi n, vi (c + 0), vi (a + 3), vi 0] [] (cw_put (kr_m (rb_m m l) Kc) m_ 6 (l + 1)) _
            rw [rb_p, Int.add_zero]
            refine ih (a + 3) Kc c (l + 1) _ (by omega) (by omega) (by omega) (by omega) (by omega) ?_
            rw [← r_w2 (by omega) (by first | exact fun z => cb z.2 | (intro z; have := z.1; omega))]
            exact hR
  exact lp f 0 Kc 0 l w4 (by omega) (by omega) hk (by omega) (by omega) hR
theorem M_row {d : Nat} {m : cw_M} {Q : Option cw_V → cw_M → Prop} (hm : la_ok m) (hr : r_fb m) {b : Int → Int} (hn : 0 ≤ m m_ 13 ∧ m m_ 13 ≤ 400) (hk : 0 ≤ m m_kept_ 46 ∧ m m_kept_ 46 ≤ 7) (hb : ∀ i, 0 ≤ i → i < m m_ 13 → (0 ≤ b i ∧ b i ≤ 255) ∧ m m_tape_ i = cw_i2b (b i)) (h1 : 0 < m m_ 13 → Q (some (vi (r_w b (m m_ 13) 200 0 (m m_kept_) 0 (if m m_ 13 % 3 = 0 then 0 else 1)).2.1)) (sd_m (kr_m (rb_m m (r_w b (m m_ 13) 200 0 (m m_kept_) 0 (if m m_ 13 % 3 = 0 then 0 else 1)).2.2) (r_w b (m m_ 13) 200 0 (m m_kept_) 0 (if m m_ 13 % 3 = 0 then 0 else 1)).1))) (h0 : m m_ 13 = 0 → Q (some (vi (-6))) (rf_m (cw_put m m_ 13 0) (-6))) : cw_C (d + 3) k_M_row [vr m_] m Q := by
  refine la_go_C hm 23 [40] ?_
  have hm21 : la_ok (cw_put m m_ 13 0) := la_put hm (by decide) (Or.inl rfl)
  refine And.intro (fun (c22 : m m_ 13 ≠ 0) => ?_) (fun (c22 : ¬ (m m_ 13 ≠ 0)) => ?_)
  · refine And.intro (show 0 ≤ m m_ 13 ∧ 0 < 3 by omega) ?_
    refine And.intro (fun (c23 : (m m_ 13) % 3 ≠ 0) => ?_) (fun (c23 : ¬ ((m m_ 13) % 3 ≠ 0)) => ?_)
    · have hm24 : la_ok (cw_put (cw_put m m_ 13 0) m_ 6 1) := la_put hm21 (by decide) (Or.inl rfl)
      show cw_R _ _ 40 [vr m_, vi (m m_ 13), vi 0, vi 0, none] [] (cw_put (cw_put m m_ 13 0) m_ 6 1) _
      refine la_go_R0 (m' := kr_m (rb_m m 1) (m m_kept_)) kr_self.symm ?_
      refine M_row40 hm hn hb ?_ 200 (by omega) hk (by omega) (RK := (r_w b (m m_ 13) 200 0 (m m_kept_) 0 (if m m_ 13 % 3 = 0 then 0 else 1)).1) (RC := (r_w b (m m_ 13) 200 0 (m m_kept_) 0 (if m m_ 13 % 3 = 0 then 0 else 1)).2.1) (RL := (r_w b (m m_ 13) 200 0 (m m_kept_) 0 (if m m_ 13 % 3 = 0 then 0 else 1)).2.2) ?_
      · exact h1 (by omega)
      · rw [if_neg (by omega)]
    · have hm25 : la_ok (cw_put (cw_put m m_ 13 0) m_ 6 0) := la_put hm21 (by decide) (Or.inl rfl)
      show cw_R _ _ 40 [vr m_, vi (m m_ 13), vi 0, vi 0, none] [] (cw_put (cw_put m m_ 13 0) m_ 6 0) _
      refine la_go_R0 (m' := kr_m (rb_m m 0) (m m_kept_)) kr_self.symm ?_
      refine M_row40 hm hn hb ?_ 200 (by omega) hk (by omega) (RK := (r_w b (m m_ 13) 200 0 (m m_kept_) 0 (if m m_ 13 % 3 = 0 then 0 else 1)).1) (RC := (r_w b (m m_ 13) 200 0 (m m_kept_) 0 (if m m_ 13 % 3 = 0 then 0 else 1)).2.1) (RL := (r_w b (m m_ 13) 200 0 (m m_kept_) 0 (if m m_ 13 % 3 = 0 then 0 else 1)).2.2) ?_
      · exact h1 (by omega)
      · rw [if_pos (by omega)]
  · show cw_C _ _ [vr m_, vi (-6)] (cw_put m m_ 13 0) _
    refine M_refuses hm21 (by omega) (hr 6 (by decide) (by decide)) ⟨(rf_ok hm21), ?_⟩
    show Q (some (vi (-6))) (rf_m (cw_put m m_ 13 0) (-6))
    exact h0 (by omega)
theorem M_lays {d : Nat} {m : cw_M} {Q : Option cw_V → cw_M → Prop} (hm : la_ok m) {t : Int} (ht : 0 ≤ t ∧ t ≤ 6) (htk : 0 ≤ m m_ 18 ∧ m m_ 18 ≤ 400) (h : Q none (kr_m m (k_lay (m m_kept_) t (m m_ 18) (m m_code_) (m m_value_) (m m_ 18)))) : cw_C d k_M_lays [vr m_, vi t] m Q := by
  have lp : ∀ (r : Nat) (k : Int), m m_ 18 < k + r → (0 ≤ k ∧ k ≤ m m_ 18) → cw_R (d) k_M_lays 15 [vr m_, vi t, vi k] [] (kr_m m (k_lay (m m_kept_) t (m m_ 18) (m m_code_) (m m_value_) k)) Q := by
    intro r
    induction r with
    | zero =>
      intro k hr hk
      omega
    | succ r ih =>
      intro k hr hk
      have hm2 : la_ok (kr_m m (k_lay (m m_kept_) t (m m_ 18) (m m_code_) (m m_value_) k)) := kr_ok hm
      refine la_go_R hm2 37 [15] ?_
      refine And.intro (fun (c21 : m m_ 18 ≤ k) => ?_) (fun (c21 : ¬ (m m_ 18 ≤ k)) => ?_)
      · show Q none (kr_m m (k_lay (m m_kept_) t (m m_ 18) (m m_code_) (m m_value_) k))
        rw [show k = m m_ 18 by omega]
        exact h
      · refine And.intro (show -2147483648 ≤ 400 * t ∧ 400 * t < 2147483648 by omega) ?_
        refine And.intro (show -2147483648 ≤ 58 + (400 * t) ∧ 58 + (400 * t) < 2147483648 by omega) ?_
        refine And.intro (show -2147483648 ≤ (58 + (400 * t)) + k ∧ (58 + (400 * t)) + k < 2147483648 by omega) ?_
        refine And.intro (show 0 ≤ k ∧ k < 401 by omega) ?_
        refine And.intro (show 0 ≤ (58 + (400 * t)) + k ∧ (58 + (400 * t)) + k < 5658 by omega) ?_
        have hm22 : la_ok (cw_put (kr_m m (k_lay (m m_kept_) t (m m_ 18) (m m_code_) (m m_value_) k)) m_kept_ ((58 + (400 * t)) + k) (m m_code_ k)) := la_put hm2 (by decide) (Or.inr (by decide))
        refine And.intro (show -2147483648 ≤ 400 * t ∧ 400 * t < 2147483648 by omega) ?_
        refine And.intro (show -2147483648 ≤ 2858 + (400 * t) ∧ 2858 + (400 * t) < 2147483648 by omega) ?_
        refine And.intro (show -2147483648 ≤ (2858 + (400 * t)) + k ∧ (2858 + (400 * t)) + k < 2147483648 by omega) ?_
        refine And.intro (show 0 ≤ k ∧ k < 401 by omega) ?_
        refine And.intro (show 0 ≤ (2858 + (400 * t)) + k ∧ (2858 + (400 * t)) + k < 5658 by omega) ?_
        have hm23 : la_ok (cw_put (cw_put (kr_m m (k_lay (m m_kept_) t (m m_ 18) (m m_code_) (m m_value_) k)) m_kept_ ((58 + (400 * t)) + k) (m m_code_ k)) m_kept_ ((2858 + (400 * t)) + k) (m m_value_ k)) := la_put hm22 (by decide) (Or.inr (by decide))
        refine And.intro (show -2147483648 ≤ k + 1 ∧ k + 1 < 2147483648 by omega) ?_
        show cw_R _ _ 15 [vr m_, vi t, vi (k + 1)] [] (cw_put (cw_put (kr_m m (k_lay (m m_kept_) t (m m_ 18) (m m_code_) (m m_value_) k)) m_kept_ ((58 + (400 * t)) + k) (m m_code_ k)) m_kept_ ((2858 + (400 * t)) + k) (m m_value_ k)) _
        rw [kr_p2, kr_p2, k_lay1 ht (by omega)]
        exact ih (k + 1) (by omega) (by omega)
  refine la_go_C hm 13 [15] ?_
  refine And.intro (show -2147483648 ≤ 51 + t ∧ 51 + t < 2147483648 by omega) ?_
  refine And.intro (show 0 ≤ 51 + t ∧ 51 + t < 5658 by omega) ?_
  have hm21 : la_ok (cw_put m m_kept_ (51 + t) (m m_ 18)) := la_put hm (by decide) (Or.inr (by decide))
  show cw_R _ _ 15 [vr m_, vi t, vi 0] [] (cw_put m m_kept_ (51 + t) (m m_ 18)) _
  rw [kr_p, k_lay0 (cd := m m_code_) (vl := m m_value_)]
  exact lp ((m m_ 18).toNat + 1) 0 (by omega) (by omega)
