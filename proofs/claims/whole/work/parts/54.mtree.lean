/-! The trees that the reference lays (wip/whole/tools/m54.py). -/
theorem t_cc {i j : Int} (hi : 0 ≤ i) (hj : 0 ≤ j) (h : i + j ≤ 5) : 0 < t_c i * t_c j ∧ t_c i * t_c j ≤ 132 := by
  rcases (by omega : i = 0 ∨ i = 1 ∨ i = 2 ∨ i = 3 ∨ i = 4 ∨ i = 5) with e | e | e | e | e | e <;> subst e <;>
  rcases (by omega : j = 0 ∨ j = 1 ∨ j = 2 ∨ j = 3 ∨ j = 4 ∨ j = 5) with e | e | e | e | e | e <;> subst e <;> first | decide | omega
theorem t_find_s {n j k : Int} {f : Nat} : t_find n (f + 1) j k = if k < t_c j * t_c (n - j - 1) then (j, k) else t_find n f (j + 1) (k - t_c j * t_c (n - j - 1)) := rfl
def t_lm (m : cw_M) (f : Nat) (t a n k dp ov : Int) : cw_M := cw_row (cw_row m m_low_ (t_w (m m_low_) (6 * t) a n (fun x => (t_q f a n k dp ov x).1))) m_high_ (t_w (m m_high_) (6 * t) a n (fun x => (t_q f a n k dp ov x).2.1))
theorem t_lm0 {m : cw_M} {f : Nat} {t a k dp ov : Int} : t_lm m f t a 0 k dp ov = m := by
  unfold t_lm
  rw [t_w0, t_w0, cw_row_self, cw_row_self]
theorem t_lm_ok {m : cw_M} {f : Nat} {t a n k dp ov : Int} (hm : la_ok m) : la_ok (t_lm m f t a n k dp ov) := la_row (la_row hm (by decide) (by decide)) (by decide) (by decide)
theorem t_lm_lo {m : cw_M} {f : Nat} {t a n k dp ov : Int} : t_lm m f t a n k dp ov m_low_ = t_w (m m_low_) (6 * t) a n (fun x => (t_q f a n k dp ov x).1) := by
  unfold t_lm; rw [cw_row_ne (by decide), cw_row_eq]
theorem t_lm_hi {m : cw_M} {f : Nat} {t a n k dp ov : Int} : t_lm m f t a n k dp ov m_high_ = t_w (m m_high_) (6 * t) a n (fun x => (t_q f a n k dp ov x).2.1) := by
  unfold t_lm; rw [cw_row_eq]
theorem t_lm_ne {m : cw_M} {f : Nat} {t a n k dp ov c : Int} (h1 : c ≠ m_low_) (h2 : c ≠ m_high_) : t_lm m f t a n k dp ov c = m c := by
  unfold t_lm; rw [cw_row_ne h2, cw_row_ne h1]
theorem t_fini {m : cw_M} {f : Nat} {t a b n k dp ov j : Int} (hb : b = a + n) (hn : 1 ≤ n ∧ n ≤ 6) (hk : 0 ≤ k ∧ k < t_c n) (e1 : j = a + t_top n k) : t_lm (t_lm (cw_put (cw_put m m_low_ ((6 * t) + j) a) m_high_ ((6 * t) + j) b) f t a (t_top n k) (t_lk n k) (dp + 1) (a + t_top n k)) f t (j + 1) (n - t_top n k - 1) (t_rk n k) (dp + 1) (a + t_top n k) = t_lm m (f + 1) t a n k dp ov := by
  subst e1 hb
  obtain ⟨h1, h2, h3, -, -⟩ := t_ok hn hk
  refine (cw_x2 (by decide) ?_ ?_ ?_).trans (show _ = t_lm m (f + 1) t a n k dp ov from rfl)
  · rw [t_lm_lo, t_lm_lo, cw_put_ne (by decide), cw_put_r]
    refine t_w3 (by omega) ?_ (fun x x1 x2 => ?_) (fun x x1 x2 => ?_)
    · show (t_q (f + 1) a n k dp ov (a + t_top n k)).1 = a
      rw [t_q_top]
    · show (t_q (f + 1) a n k dp ov x).1 = (t_q f a (t_top n k) (t_lk n k) (dp + 1) (a + t_top n k) x).1
      rw [t_q_left x2]
    · show (t_q (f + 1) a n k dp ov x).1 = (t_q f (a + t_top n k + 1) (n - t_top n k - 1) (t_rk n k) (dp + 1) (a + t_top n k) x).1
      rw [t_q_right x1]
  · rw [t_lm_hi, t_lm_hi, cw_put_r, cw_put_ne (by decide)]
    refine t_w3 (by omega) ?_ (fun x x1 x2 => ?_) (fun x x1 x2 => ?_)
    · show (t_q (f + 1) a n k dp ov (a + t_top n k)).2.1 = a + n
      rw [t_q_top]
    · show (t_q (f + 1) a n k dp ov x).2.1 = (t_q f a (t_top n k) (t_lk n k) (dp + 1) (a + t_top n k) x).2.1
      rw [t_q_left x2]
    · show (t_q (f + 1) a n k dp ov x).2.1 = (t_q f (a + t_top n k + 1) (n - t_top n k - 1) (t_rk n k) (dp + 1) (a + t_top n k) x).2.1
      rw [t_q_right x1]
  · intro c c1 c2
    rw [t_lm_ne c1 c2, t_lm_ne c1 c2, cw_put_ne c2, cw_put_ne c1]
theorem M_laysTree : ∀ (f : Nat) {d : Nat} {m : cw_M} {Q : Option cw_V → cw_M → Prop} {t a b n k k0 dp ov : Int}, la_ok m → (∀ j, 0 ≤ j → j < 7 → m m_catalan_ j = t_c j) → 0 ≤ t ∧ t < 132 → 0 ≤ a → b = a + n → 0 ≤ n → n ≤ f → b ≤ 6 → 0 ≤ k ∧ k < t_c n → k0 = k → Q none (t_lm m f t a n k dp ov) → cw_C (d + f) k_M_laysTree [vr m_, vi t, vi a, vi b, vi k0] m Q := by
  intro f
  induction f with
  | zero =>
    intro d m Q t a b n k k0 dp ov hm hc ht ha hb hn hf hb6 hk hk0 hQ
    obtain rfl : n = 0 := by omega
    rw [t_lm0] at hQ
    refine la_go_C hm 20 [] ?_
    exact And.intro (fun _ => hQ) (fun (c : ¬ (b ≤ a)) => absurd (show b ≤ a by omega) c)
  | succ f IH =>
    intro d m Q t a b n k k0 dp ov hm hc ht ha hb hn hf hb6 hk hk0 hQ
    by_cases n0 : n = 0
    · subst n0
      rw [t_lm0] at hQ
      refine la_go_C hm 8 [] ?_
      exact And.intro (fun _ => hQ) (fun (c : ¬ (b ≤ a)) => absurd (show b ≤ a by omega) c)
    obtain ⟨o1, o2, o3, -, -⟩ := t_ok (by omega) hk
    have loop : ∀ (r : Nat) (j kk : Int) (w7 w8 : cw_V), (j - a) + r = n ∧ a ≤ j → t_find n r (j - a) kk = (t_top n k, t_rem n k) → 0 ≤ kk ∧ kk < 132 → cw_R (d + (f + 1)) k_M_laysTree 7 [vr m_, vi t, vi a, vi b, vi k0, vi kk, vi j, w7, w8] [] m Q := by
      intro r
      induction r with
      | zero =>
        intro j kk w7 w8 hj hF hkk
        have F1 : j - a = t_top n k := congrArg Prod.fst hF
        omega
      | succ r ih =>
        intro j kk w7 w8 hj hF hkk
        have g1 := hc (j - a) (by omega) (by omega)
        have g2 := hc ((b - j) - 1) (by omega) (by omega)
        have p0 := t_cc (i := j - a) (j := n - (j - a) - 1) (by omega) (by omega) (by omega)
        have p1 : (m m_catalan_ (j - a)) * (m m_catalan_ ((b - j) - 1)) = t_c (j - a) * t_c (n - (j - a) - 1) := by rw [g1, g2, show (b - j) - 1 = n - (j - a) - 1 by omega]
        have g3 := t_cpos (n := (b - j) - 1) (by omega)
        refine la_go_R hm 64 [7] ?_
        refine And.intro (fun (c1 : b ≤ j) => ?_) (fun (c1 : ¬ (b ≤ j)) => ?_)
        · show Q none (m)
          omega
        · refine And.intro (show -2147483648 ≤ b - j ∧ b - j < 2147483648 by omega) ?_
          refine And.intro (show -2147483648 ≤ (b - j) - 1 ∧ (b - j) - 1 < 2147483648 by omega) ?_
          refine And.intro (show 0 ≤ (b - j) - 1 ∧ (b - j) - 1 < 7 by omega) ?_
          refine And.intro (show -2147483648 ≤ j - a ∧ j - a < 2147483648 by omega) ?_
          refine And.intro (show 0 ≤ j - a ∧ j - a < 7 by omega) ?_
          refine And.intro (show -2147483648 ≤ (m m_catalan_ (j - a)) * (m m_catalan_ ((b - j) - 1)) ∧ (m m_catalan_ (j - a)) * (m m_catalan_ ((b - j) - 1)) < 2147483648 by omega) ?_
          refine And.intro (fun (c2 : kk < (m m_catalan_ (j - a)) * (m m_catalan_ ((b - j) - 1))) => ?_) (fun (c2 : ¬ (kk < (m m_catalan_ (j - a)) * (m m_catalan_ ((b - j) - 1)))) => ?_)
          · rw [p1] at c2
            rw [t_find_s, if_pos c2] at hF
            have F1 : j - a = t_top n k := congrArg Prod.fst hF
            have F2 : kk = t_rem n k := congrArg Prod.snd hF
            refine And.intro (show -2147483648 ≤ 6 * t ∧ 6 * t < 2147483648 by omega) ?_
            refine And.intro (show -2147483648 ≤ (6 * t) + j ∧ (6 * t) + j < 2147483648 by omega) ?_
            refine And.intro (show 0 ≤ (6 * t) + j ∧ (6 * t) + j < 792 by omega) ?_
            have hm3 : la_ok (cw_put m m_low_ ((6 * t) + j) a) := la_put hm (by decide) (Or.inr (by decide))
            refine And.intro (show -2147483648 ≤ 6 * t ∧ 6 * t < 2147483648 by omega) ?_
            refine And.intro (show -2147483648 ≤ (6 * t) + j ∧ (6 * t) + j < 2147483648 by omega) ?_
            refine And.intro (show 0 ≤ (6 * t) + j ∧ (6 * t) + j < 792 by omega) ?_
            have hm4 : la_ok (cw_put (cw_put m m_low_ ((6 * t) + j) a) m_high_ ((6 * t) + j) b) := la_put hm3 (by decide) (Or.inr (by decide))
            refine And.intro (show 0 ≤ kk ∧ kk < 2147483648 ∧ 0 < m m_catalan_ ((b - j) - 1) by omega) ?_
            show cw_C _ _ [vr m_, vi t, vi a, vi j, vi (kk / (m m_catalan_ ((b - j) - 1)))] (cw_put (cw_put m m_low_ ((6 * t) + j) a) m_high_ ((6 * t) + j) b) _
            have hm5 : la_ok (t_lm (cw_put (cw_put m m_low_ ((6 * t) + j) a) m_high_ ((6 * t) + j) b) f t a (t_top n k) (t_lk n k) (dp + 1) (a + t_top n k)) := t_lm_ok hm4
            have e1 : j = a + t_top n k := by omega
            have z2 : kk / m m_catalan_ ((b - j) - 1) = t_lk n k := by unfold t_lk; rw [F2, hc _ (by omega) (by omega)]; congr 2; omega
            have z3 : kk % m m_catalan_ ((b - j) - 1) = t_rk n k := by unfold t_rk; rw [F2, hc _ (by omega) (by omega)]; congr 2; omega
            refine IH hm4 hc ht (by omega) (by omega) (by omega) (by omega) (by omega) o2 z2 ⟨hm5, ?_⟩
            refine And.intro (show -2147483648 ≤ j + 1 ∧ j + 1 < 2147483648 by omega) ?_
            refine And.intro (show 0 ≤ kk ∧ 0 < m m_catalan_ ((b - j) - 1) by omega) ?_
            show cw_C _ _ [vr m_, vi t, vi (j + 1), vi b, vi (kk % (m m_catalan_ ((b - j) - 1)))] (t_lm (cw_put (cw_put m m_low_ ((6 * t) + j) a) m_high_ ((6 * t) + j) b) f t a (t_top n k) (t_lk n k) (dp + 1) (a + t_top n k)) _
            have hm6 : la_ok (t_lm (t_lm (cw_put (cw_put m m_low_ ((6 * t) + j) a) m_high_ ((6 * t) + j) b) f t a (t_top n k) (t_lk n k) (dp + 1) (a + t_top n k)) f t (j + 1) (n - t_top n k - 1) (t_rk n k) (dp + 1) (a + t_top n k)) := t_lm_ok hm5
            refine IH hm5 hc ht (by omega) (by omega) (by omega) (by omega) (by omega) o3 z3 ⟨hm6, ?_⟩
            show Q none (t_lm (t_lm (cw_put (cw_put m m_low_ ((6 * t) + j) a) m_high_ ((6 * t) + j) b) f t a (t_top n k) (t_lk n k) (dp + 1) (a + t_top n k)) f t (j + 1) (n - t_top n k - 1) (t_rk n k) (dp + 1) (a + t_top n k))
            rw [t_fini (ov := ov) hb (by omega) hk e1]
            exact hQ
          · refine And.intro (show -2147483648 ≤ kk - ((m m_catalan_ (j - a)) * (m m_catalan_ ((b - j) - 1))) ∧ kk - ((m m_catalan_ (j - a)) * (m m_catalan_ ((b - j) - 1))) < 2147483648 by omega) ?_
            refine And.intro (show -2147483648 ≤ j + 1 ∧ j + 1 < 2147483648 by omega) ?_
            show cw_R _ _ 7 [vr m_, vi t, vi a, vi b, vi k0, vi (kk - ((m m_catalan_ (j - a)) * (m m_catalan_ ((b - j) - 1)))), vi (j + 1), vi (m m_catalan_ ((b - j) - 1)), vi ((m m_catalan_ (j - a)) * (m m_catalan_ ((b - j) - 1)))] [] (m) _
            rw [p1] at c2
            refine ih _ _ _ _ (by omega) ?_ (by omega)
            rw [p1, ← hF, t_find_s, if_neg c2]
            congr 1
            omega
    refine la_go_C hm 8 [7] ?_
    refine loop n.toNat a k0 none none (by omega) ?_ ?_
    · rw [show a - a = 0 by omega, hk0]; rfl
    · have := t_cpos (n := n) (by omega); omega
