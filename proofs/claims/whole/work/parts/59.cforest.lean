/-! The forest of the class (wip/whole/tools/m59.py). -/
def f_m (m : cw_M) (de ab li : Int → Int) (tr co jo : Int) : cw_M := fun c => if c = x_forest_deep_ then de else if c = x_forest_above_ then ab else if c = x_forest_list_ then li else if c = x_forest_ then (fun j => if j = 0 then tr else if j = 4 then co else if j = 5 then jo else m x_forest_ j) else m c
theorem f_m_ne {m : cw_M} {de ab li : Int → Int} {tr co jo : Int} {c : Int} (h0 : c ≠ x_forest_deep_) (h1 : c ≠ x_forest_above_) (h2 : c ≠ x_forest_list_) (h3 : c ≠ x_forest_) : f_m m de ab li tr co jo c = m c := by
  unfold f_m; rw [if_neg h0, if_neg h1, if_neg h2, if_neg h3]
theorem f_m_de {m : cw_M} {de ab li : Int → Int} {tr co jo : Int} : f_m m de ab li tr co jo x_forest_deep_ = de := rfl
theorem f_m_ab {m : cw_M} {de ab li : Int → Int} {tr co jo : Int} : f_m m de ab li tr co jo x_forest_above_ = ab := rfl
theorem f_m_li {m : cw_M} {de ab li : Int → Int} {tr co jo : Int} : f_m m de ab li tr co jo x_forest_list_ = li := rfl
theorem f_m_ox_forest_ {m : cw_M} {de ab li : Int → Int} {tr co jo : Int} {j : Int} (h0 : j ≠ 0) (h1 : j ≠ 4) (h2 : j ≠ 5) : f_m m de ab li tr co jo x_forest_ j = m x_forest_ j := by
  show (if j = 0 then tr else if j = 4 then co else if j = 5 then jo else m x_forest_ j) = _
  rw [if_neg h0, if_neg h1, if_neg h2]
theorem f_m_ok {m : cw_M} {de ab li : Int → Int} {tr co jo : Int} (hm : la_ok m) : la_ok (f_m m de ab li tr co jo) := by
  refine ⟨by rw [f_m_ne (by decide) (by decide) (by decide) (by decide)]; exact hm.1, fun e he => ?_⟩
  obtain ⟨z1, h2, -, z4⟩ := la_lok e he
  have n0 : e.1 ≠ x_forest_deep_ := fun q => by rw [q] at h2; revert h2; decide
  have n1 : e.1 ≠ x_forest_above_ := fun q => by rw [q] at h2; revert h2; decide
  have n2 : e.1 ≠ x_forest_list_ := fun q => by rw [q] at h2; revert h2; decide
  by_cases q0 : e.1 = x_forest_
  · rw [q0, f_m_ox_forest_ (fun q => by rw [q0, q] at z4; cases z4) (fun q => by rw [q0, q] at z4; cases z4) (fun q => by rw [q0, q] at z4; cases z4), ← q0]; exact hm.2 e he
  rw [f_m_ne n0 n1 n2 q0]; exact hm.2 e he
theorem f_m_x {m M : cw_M} {de ab li : Int → Int} {tr co jo : Int} (r0 : M x_forest_deep_ = de) (r1 : M x_forest_above_ = ab) (r2 : M x_forest_list_ = li) (f0 : M x_forest_ 0 = tr) (f1 : M x_forest_ 4 = co) (f2 : M x_forest_ 5 = jo) (o0 : ∀ j, j ≠ 0 → j ≠ 4 → j ≠ 5 → M x_forest_ j = m x_forest_ j) (h : ∀ c, c ≠ x_forest_deep_ → c ≠ x_forest_above_ → c ≠ x_forest_list_ → c ≠ x_forest_ → M c = m c) : M = f_m m de ab li tr co jo := by
  funext c
  by_cases h0 : c = x_forest_deep_
  · rw [h0, r0]; rfl
  by_cases h1 : c = x_forest_above_
  · rw [h1, r1]; rfl
  by_cases h2 : c = x_forest_list_
  · rw [h2, r2]; rfl
  by_cases h3 : c = x_forest_
  · funext j
    rw [h3]
    by_cases z0 : j = 0
    · rw [z0, f0]; rfl
    by_cases z1 : j = 4
    · rw [z1, f1]; rfl
    by_cases z2 : j = 5
    · rw [z2, f2]; rfl
    rw [o0 j z0 z1 z2, f_m_ox_forest_ z0 z1 z2]
  rw [h c h0 h1 h2 h3, f_m_ne h0 h1 h2 h3]
theorem f_m_rde {m : cw_M} {de ab li : Int → Int} {tr co jo : Int} {f : Int → Int} : cw_row (f_m m de ab li tr co jo) x_forest_deep_ f = f_m m f ab li tr co jo := by
  refine f_m_x rfl rfl rfl rfl rfl rfl (fun j z0 z1 z2 => by rw [cw_row_ne (by decide), f_m_ox_forest_ z0 z1 z2]) (fun c h0 h1 h2 h3 => by rw [cw_row_ne h0, f_m_ne h0 h1 h2 h3])
theorem f_m_pde {m : cw_M} {de ab li : Int → Int} {tr co jo : Int} {i v : Int} : cw_put (f_m m de ab li tr co jo) x_forest_deep_ i v = f_m m (cw_up de i v) ab li tr co jo := by
  rw [cw_put_row, f_m_rde, f_m_de]
theorem f_m_rab {m : cw_M} {de ab li : Int → Int} {tr co jo : Int} {f : Int → Int} : cw_row (f_m m de ab li tr co jo) x_forest_above_ f = f_m m de f li tr co jo := by
  refine f_m_x rfl rfl rfl rfl rfl rfl (fun j z0 z1 z2 => by rw [cw_row_ne (by decide), f_m_ox_forest_ z0 z1 z2]) (fun c h0 h1 h2 h3 => by rw [cw_row_ne h1, f_m_ne h0 h1 h2 h3])
theorem f_m_pab {m : cw_M} {de ab li : Int → Int} {tr co jo : Int} {i v : Int} : cw_put (f_m m de ab li tr co jo) x_forest_above_ i v = f_m m de (cw_up ab i v) li tr co jo := by
  rw [cw_put_row, f_m_rab, f_m_ab]
theorem f_m_rli {m : cw_M} {de ab li : Int → Int} {tr co jo : Int} {f : Int → Int} : cw_row (f_m m de ab li tr co jo) x_forest_list_ f = f_m m de ab f tr co jo := by
  refine f_m_x rfl rfl rfl rfl rfl rfl (fun j z0 z1 z2 => by rw [cw_row_ne (by decide), f_m_ox_forest_ z0 z1 z2]) (fun c h0 h1 h2 h3 => by rw [cw_row_ne h2, f_m_ne h0 h1 h2 h3])
theorem f_m_pli {m : cw_M} {de ab li : Int → Int} {tr co jo : Int} {i v : Int} : cw_put (f_m m de ab li tr co jo) x_forest_list_ i v = f_m m de ab (cw_up li i v) tr co jo := by
  rw [cw_put_row, f_m_rli, f_m_li]
theorem f_m_ftr {m : cw_M} {de ab li : Int → Int} {tr co jo : Int} {v : Int} : cw_put (f_m m de ab li tr co jo) x_forest_ 0 v = f_m m de ab li v co jo := by
  refine f_m_x rfl rfl rfl rfl rfl rfl (fun j z0 z1 z2 => by rw [cw_put_off z0, f_m_ox_forest_ z0 z1 z2]) (fun c h0 h1 h2 h3 => by rw [cw_put_ne h3, f_m_ne h0 h1 h2 h3])
theorem f_m_fco {m : cw_M} {de ab li : Int → Int} {tr co jo : Int} {v : Int} : cw_put (f_m m de ab li tr co jo) x_forest_ 4 v = f_m m de ab li tr v jo := by
  refine f_m_x rfl rfl rfl rfl rfl rfl (fun j z0 z1 z2 => by rw [cw_put_off z1, f_m_ox_forest_ z0 z1 z2]) (fun c h0 h1 h2 h3 => by rw [cw_put_ne h3, f_m_ne h0 h1 h2 h3])
theorem f_m_fjo {m : cw_M} {de ab li : Int → Int} {tr co jo : Int} {v : Int} : cw_put (f_m m de ab li tr co jo) x_forest_ 5 v = f_m m de ab li tr co v := by
  refine f_m_x rfl rfl rfl rfl rfl rfl (fun j z0 z1 z2 => by rw [cw_put_off z2, f_m_ox_forest_ z0 z1 z2]) (fun c h0 h1 h2 h3 => by rw [cw_put_ne h3, f_m_ne h0 h1 h2 h3])
theorem f_m_2 {m : cw_M} {de ab li : Int → Int} {tr co jo : Int} {de' ab' li' : Int → Int} {tr' co' jo' : Int} : f_m (f_m m de ab li tr co jo) de' ab' li' tr' co' jo' = f_m m de' ab' li' tr' co' jo' := by
  refine f_m_x rfl rfl rfl rfl rfl rfl (fun j z0 z1 z2 => by rw [f_m_ox_forest_ z0 z1 z2, f_m_ox_forest_ z0 z1 z2]) (fun c h0 h1 h2 h3 => by rw [f_m_ne h0 h1 h2 h3, f_m_ne h0 h1 h2 h3])
theorem f_m_self {m : cw_M} : f_m m (m x_forest_deep_) (m x_forest_above_) (m x_forest_list_) (m x_forest_ 0) (m x_forest_ 4) (m x_forest_ 5) = m := by
  refine (f_m_x rfl rfl rfl rfl rfl rfl (fun _ _ _ _ => rfl) (fun _ _ _ _ _ => rfl)).symm
theorem C_isBelow {d : Nat} {m : cw_M} {Q : Option cw_V → cw_M → Prop} {v n : Int} (h1 : 0 ≤ v → v < n → Q (some (vi 1)) m) (h0 : ¬ (0 ≤ v ∧ v < n) → Q (some (vi 0)) m) : cw_C d k_C_isBelow [vi v, vi n] m Q := by
  refine cw_go_C 12 [] ?_
  refine And.intro (fun (c : v < 0) => ⟨Or.inl rfl, h0 (by omega)⟩) (fun (c : ¬ v < 0) => ?_)
  refine And.intro (fun (c2 : n ≤ v) => ⟨Or.inl rfl, h0 (by omega)⟩) (fun (c2 : ¬ n ≤ v) => ⟨Or.inr rfl, h1 (by omega) (by omega)⟩)
/-- in the row of what lies right above what: the places of a piece -/
def t_wa (old : Int → Int) (t a n : Int) (g : Int → Int) : Int → Int := fun i => if 0 ≤ i ∧ (a ≤ i / 3 % 6 ∧ i / 3 % 6 < a + n) ∧ g (i / 3 % 6) = i / 18 ∧ i % 3 = t / 64 then cw_lor (old i) (cw_lshl 1 (t % 64)) else old i
theorem t_wa0 {old g : Int → Int} {t a : Int} : t_wa old t a 0 g = old := by funext i; unfold t_wa; rw [if_neg (by omega)]
theorem t_wa3 {old base g g1 g2 : Int → Int} {t a n j ov : Int} (ht : 0 ≤ t ∧ t < 132) (ha : 0 ≤ a ∧ a + n ≤ 6) (hov : -1 ≤ ov) (hj : 0 ≤ j ∧ j < n) (hb : (ov = -1 ∧ base = old) ∨ (ov ≠ -1 ∧ base = cw_up old ((ov * 6 + (a + j)) * 3 + t / 64) (cw_lor (old ((ov * 6 + (a + j)) * 3 + t / 64)) (cw_lshl 1 (t % 64))))) (h0 : g (a + j) = ov) (h1 : ∀ x, a ≤ x → x < a + j → g x = g1 x) (h2 : ∀ x, a + j < x → x < a + n → g x = g2 x) : t_wa (t_wa base t a j g1) t (a + j + 1) (n - j - 1) g2 = t_wa old t a n g := by
  funext i
  unfold t_wa
  have hbi : i / 3 % 6 ≠ a + j → base i = old i := by
    intro q
    rcases hb with ⟨e, hb⟩ | ⟨e, hb⟩
    · rw [hb]
    · rw [hb, cw_up_ne (by omega)]
  by_cases c0 : 0 ≤ i
  · rcases (by omega : i / 3 % 6 < a + j ∨ i / 3 % 6 = a + j ∨ a + j < i / 3 % 6) with e | e | e
    · rw [if_neg (by omega), hbi (by omega)]
      by_cases c1 : a ≤ i / 3 % 6
      · rw [h1 _ c1 e]
        by_cases c2 : g1 (i / 3 % 6) = i / 18 ∧ i % 3 = t / 64
        · rw [if_pos (by omega), if_pos (by omega)]
        · rw [if_neg (by omega), if_neg (by omega)]
      · rw [if_neg (by omega), if_neg (by omega)]
    · rw [if_neg (by omega), if_neg (by omega), e, h0]
      rcases hb with ⟨e1, hb⟩ | ⟨e1, hb⟩
      · rw [hb, if_neg (by omega)]
      · rw [hb]
        by_cases c2 : ov = i / 18 ∧ i % 3 = t / 64
        · rw [if_pos (by omega), show i = (ov * 6 + (a + j)) * 3 + t / 64 by omega, cw_up_eq]
        · rw [if_neg (by omega), cw_up_ne (by omega)]
    · rw [show (if 0 ≤ i ∧ (a ≤ i / 3 % 6 ∧ i / 3 % 6 < a + j) ∧ g1 (i / 3 % 6) = i / 18 ∧ i % 3 = t / 64 then cw_lor (base i) (cw_lshl 1 (t % 64)) else base i) = old i from by rw [if_neg (by omega), hbi (by omega)]]
      by_cases c1 : i / 3 % 6 < a + n
      · rw [h2 _ e c1]
        by_cases c2 : g2 (i / 3 % 6) = i / 18 ∧ i % 3 = t / 64
        · rw [if_pos (by omega), if_pos (by omega)]
        · rw [if_neg (by omega), if_neg (by omega)]
      · rw [if_neg (by omega), if_neg (by omega)]
  · rw [if_neg (by omega), if_neg (by omega), if_neg (by omega)]
    rcases hb with ⟨e, hb⟩ | ⟨e, hb⟩
    · rw [hb]
    · rw [hb, cw_up_ne (by omega)]
def t_pm (m : cw_M) (f : Nat) (t a n k dp ov : Int) : cw_M := cw_row (cw_row m x_forest_deep_ (t_w (m x_forest_deep_) (6 * t) a n (fun x => (t_q f a n k dp ov x).2.2.1))) x_forest_above_ (t_wa (m x_forest_above_) t a n (fun x => (t_q f a n k dp ov x).2.2.2))
theorem t_pm0 {m : cw_M} {f : Nat} {t a k dp ov : Int} : t_pm m f t a 0 k dp ov = m := by
  unfold t_pm
  rw [t_w0, t_wa0, cw_row_self, cw_row_self]
theorem t_pm_ok {m : cw_M} {f : Nat} {t a n k dp ov : Int} (hm : la_ok m) : la_ok (t_pm m f t a n k dp ov) := la_row (la_row hm (by decide) (by decide)) (by decide) (by decide)
theorem t_pm_de {m : cw_M} {f : Nat} {t a n k dp ov : Int} : t_pm m f t a n k dp ov x_forest_deep_ = t_w (m x_forest_deep_) (6 * t) a n (fun x => (t_q f a n k dp ov x).2.2.1) := by
  unfold t_pm; rw [cw_row_ne (by decide), cw_row_eq]
theorem t_pm_ab {m : cw_M} {f : Nat} {t a n k dp ov : Int} : t_pm m f t a n k dp ov x_forest_above_ = t_wa (m x_forest_above_) t a n (fun x => (t_q f a n k dp ov x).2.2.2) := by
  unfold t_pm; rw [cw_row_eq]
theorem t_pm_ne {m : cw_M} {f : Nat} {t a n k dp ov c : Int} (h1 : c ≠ x_forest_deep_) (h2 : c ≠ x_forest_above_) : t_pm m f t a n k dp ov c = m c := by
  unfold t_pm; rw [cw_row_ne h2, cw_row_ne h1]
theorem t_pini {m M : cw_M} {f : Nat} {t a b n k dp ov j : Int} (ht : 0 ≤ t ∧ t < 132) (ha : 0 ≤ a) (hb6 : b ≤ 6) (hov : -1 ≤ ov) (hb : b = a + n) (hn : 1 ≤ n ∧ n ≤ 6) (hk : 0 ≤ k ∧ k < t_c n) (e1 : j = a + t_top n k) (hM : (ov = -1 ∧ M = cw_put m x_forest_deep_ (t * 6 + j) dp) ∨ (ov ≠ -1 ∧ M = cw_put (cw_put m x_forest_deep_ (t * 6 + j) dp) x_forest_above_ ((ov * 6 + j) * 3 + cw_ishr t 6) (cw_lor (m x_forest_above_ ((ov * 6 + j) * 3 + cw_ishr t 6)) (cw_lshl 1 (cw_iand t 63))))) : t_pm (t_pm M f t a (t_top n k) (t_lk n k) (dp + 1) j) f t (j + 1) (n - t_top n k - 1) (t_rk n k) (dp + 1) j = t_pm m (f + 1) t a n k dp ov := by
  subst e1 hb
  obtain ⟨h1, h2, h3, -, -⟩ := t_ok hn hk
  have l63 := l_63 (t := t) (by omega)
  rw [l63.1, l63.2] at hM
  have M1 : M x_forest_deep_ = cw_up (m x_forest_deep_) (6 * t + (a + t_top n k)) dp := by
    rcases hM with ⟨-, hM⟩ | ⟨-, hM⟩
    · rw [hM, cw_put_r, show t * 6 = 6 * t by omega]
    · rw [hM, cw_put_ne (by decide), cw_put_r, show t * 6 = 6 * t by omega]
  have M2 : (ov = -1 ∧ M x_forest_above_ = m x_forest_above_) ∨ (ov ≠ -1 ∧ M x_forest_above_ = cw_up (m x_forest_above_) ((ov * 6 + (a + t_top n k)) * 3 + t / 64) (cw_lor (m x_forest_above_ ((ov * 6 + (a + t_top n k)) * 3 + t / 64)) (cw_lshl 1 (t % 64)))) := by
    rcases hM with ⟨e, hM⟩ | ⟨e, hM⟩
    · left; rw [hM, cw_put_ne (by decide)]; exact ⟨e, rfl⟩
    · right; refine ⟨e, ?_⟩
      rw [hM, cw_put_r, cw_put_ne (by decide)]
  have M3 : ∀ c, c ≠ x_forest_deep_ → c ≠ x_forest_above_ → M c = m c := by
    intro c c1 c2
    rcases hM with ⟨-, hM⟩ | ⟨-, hM⟩
    · rw [hM, cw_put_ne c1]
    · rw [hM, cw_put_ne c2, cw_put_ne c1]
  refine (cw_x2 (by decide) ?_ ?_ ?_).trans (show _ = t_pm m (f + 1) t a n k dp ov from rfl)
  · rw [t_pm_de, t_pm_de, M1]
    refine t_w3 (by omega) ?_ (fun x x1 x2 => ?_) (fun x x1 x2 => ?_)
    · show (t_q (f + 1) a n k dp ov (a + t_top n k)).2.2.1 = dp
      rw [t_q_top]
    · show (t_q (f + 1) a n k dp ov x).2.2.1 = (t_q f a (t_top n k) (t_lk n k) (dp + 1) (a + t_top n k) x).2.2.1
      rw [t_q_left x2]
    · show (t_q (f + 1) a n k dp ov x).2.2.1 = (t_q f (a + t_top n k + 1) (n - t_top n k - 1) (t_rk n k) (dp + 1) (a + t_top n k) x).2.2.1
      rw [t_q_right x1]
  · rw [t_pm_ab, t_pm_ab]
    refine t_wa3 ht (by omega) hov (by omega) M2 ?_ (fun x x1 x2 => ?_) (fun x x1 x2 => ?_)
    · show (t_q (f + 1) a n k dp ov (a + t_top n k)).2.2.2 = ov
      rw [t_q_top]
    · show (t_q (f + 1) a n k dp ov x).2.2.2 = (t_q f a (t_top n k) (t_lk n k) (dp + 1) (a + t_top n k) x).2.2.2
      rw [t_q_left x2]
    · show (t_q (f + 1) a n k dp ov x).2.2.2 = (t_q f (a + t_top n k + 1) (n - t_top n k - 1) (t_rk n k) (dp + 1) (a + t_top n k) x).2.2.2
      rw [t_q_right x1]
  · intro c c1 c2
    rw [t_pm_ne c1 c2, t_pm_ne c1 c2, M3 c c1 c2]
theorem Fo_place : ∀ (f : Nat) {d : Nat} {m : cw_M} {Q : Option cw_V → cw_M → Prop} {t a b n k k0 dp ov : Int}, la_ok m → (∀ j, 0 ≤ j → j < 7 → m cw_TREES j = t_c j) → 0 ≤ t ∧ t < 132 → 0 ≤ a → b = a + n → 0 ≤ n → n ≤ f → b ≤ 6 → 0 ≤ k ∧ k < t_c n → k0 = k → 0 ≤ dp → dp + n ≤ 6 → -1 ≤ ov ∧ ov < 6 → Q none (t_pm m f t a n k dp ov) → cw_C (d + f) k_Fo_place [vr x_forest_, vi t, vi a, vi b, vi k0, vi ov, vi dp] m Q := by
  intro f
  induction f with
  | zero =>
    intro d m Q t a b n k k0 dp ov hm hc ht ha hb hn hf hb6 hk hk0 hdp hdn hov hQ
    obtain rfl : n = 0 := by omega
    rw [t_pm0] at hQ
    refine la_go_C hm 20 [] ?_
    exact And.intro (fun _ => hQ) (fun (c : ¬ (b ≤ a)) => absurd (show b ≤ a by omega) c)
  | succ f IH =>
    intro d m Q t a b n k k0 dp ov hm hc ht ha hb hn hf hb6 hk hk0 hdp hdn hov hQ
    by_cases n0 : n = 0
    · subst n0
      rw [t_pm0] at hQ
      refine la_go_C hm 8 [] ?_
      exact And.intro (fun _ => hQ) (fun (c : ¬ (b ≤ a)) => absurd (show b ≤ a by omega) c)
    obtain ⟨o1, o2, o3, -, -⟩ := t_ok (by omega) hk
    have loop : ∀ (r : Nat) (j kk : Int) (w9 w10 : cw_V), (j - a) + r = n ∧ a ≤ j → t_find n r (j - a) kk = (t_top n k, t_rem n k) → 0 ≤ kk ∧ kk < 132 → cw_R (d + (f + 1)) k_Fo_place 20 [vr x_forest_, vi t, vi a, vi b, vi k0, vi ov, vi dp, vi kk, vi j, w9, w10] [] m Q := by
      intro r
      induction r with
      | zero =>
        intro j kk w7 w8 hj hF hkk
        have F1 : j - a = t_top n k := congrArg Prod.fst hF
        omega
      | succ r ih =>
        intro j kk w9 w10 hj hF hkk
        have g1 := hc (j - a) (by omega) (by omega)
        have g2 := hc ((b - j) - 1) (by omega) (by omega)
        have p0 := t_cc (i := j - a) (j := n - (j - a) - 1) (by omega) (by omega) (by omega)
        have p1 : (m cw_TREES (j - a)) * (m cw_TREES ((b - j) - 1)) = t_c (j - a) * t_c (n - (j - a) - 1) := by rw [g1, g2, show (b - j) - 1 = n - (j - a) - 1 by omega]
        have g3 := t_cpos (n := (b - j) - 1) (by omega)
        have l63 := l_63 (t := t) (by omega)
        have hovs := hov
        have hov : -1 ≤ ov := hov.1
        refine la_go_R hm 88 [20] ?_
        refine And.intro (fun (c1 : b ≤ j) => ?_) (fun (c1 : ¬ (b ≤ j)) => ?_)
        · show Q none (m)
          omega
        · refine And.intro (show -2147483648 ≤ b - j ∧ b - j < 2147483648 by omega) ?_
          refine And.intro (show -2147483648 ≤ (b - j) - 1 ∧ (b - j) - 1 < 2147483648 by omega) ?_
          refine And.intro (show 0 ≤ (b - j) - 1 ∧ (b - j) - 1 < 7 by omega) ?_
          refine And.intro (show -2147483648 ≤ j - a ∧ j - a < 2147483648 by omega) ?_
          refine And.intro (show 0 ≤ j - a ∧ j - a < 7 by omega) ?_
          refine And.intro (show -2147483648 ≤ (m cw_TREES (j - a)) * (m cw_TREES ((b - j) - 1)) ∧ (m cw_TREES (j - a)) * (m cw_TREES ((b - j) - 1)) < 2147483648 by omega) ?_
          refine And.intro (fun (c2 : (m cw_TREES (j - a)) * (m cw_TREES ((b - j) - 1)) ≤ kk) => ?_) (fun (c2 : ¬ ((m cw_TREES (j - a)) * (m cw_TREES ((b - j) - 1)) ≤ kk)) => ?_)
          · rw [p1] at c2
            refine And.intro (show -2147483648 ≤ kk - ((m cw_TREES (j - a)) * (m cw_TREES ((b - j) - 1))) ∧ kk - ((m cw_TREES (j - a)) * (m cw_TREES ((b - j) - 1))) < 2147483648 by omega) ?_
            refine And.intro (show -2147483648 ≤ j + 1 ∧ j + 1 < 2147483648 by omega) ?_
            show cw_R _ _ 20 [vr x_forest_, vi t, vi a, vi b, vi k0, vi ov, vi dp, vi (kk - ((m cw_TREES (j - a)) * (m cw_TREES ((b - j) - 1)))), vi (j + 1), vi (m cw_TREES ((b - j) - 1)), vi ((m cw_TREES (j - a)) * (m cw_TREES ((b - j) - 1)))] [] (m) _
            have c2 : ¬ kk < t_c (j - a) * t_c (n - (j - a) - 1) := by omega
            refine ih _ _ _ _ (by omega) ?_ (by omega)
            rw [p1, ← hF, t_find_s, if_neg c2]
            congr 1
            omega
          · rw [p1] at c2
            rw [t_find_s, if_pos (by omega)] at hF
            have F1 : j - a = t_top n k := congrArg Prod.fst hF
            have F2 : kk = t_rem n k := congrArg Prod.snd hF
            refine br_f (show ¬ (m cw_TREES ((b - j) - 1) ≤ 0) by omega) ?_
            refine And.intro (show -2147483648 ≤ t * 6 ∧ t * 6 < 2147483648 by omega) ?_
            refine And.intro (show -2147483648 ≤ (t * 6) + j ∧ (t * 6) + j < 2147483648 by omega) ?_
            refine And.intro (show 0 ≤ (t * 6) + j ∧ (t * 6) + j < 792 by omega) ?_
            have hm3 : la_ok (cw_put m x_forest_deep_ ((t * 6) + j) dp) := la_put hm (by decide) (Or.inr (by decide))
            refine And.intro (fun (c4 : ov = (-1)) => ?_) (fun (c4 : ¬ (ov = (-1))) => ?_)
            · refine And.intro (show 0 ≤ kk ∧ kk < 2147483648 ∧ 0 < m cw_TREES ((b - j) - 1) by omega) ?_
              refine And.intro (show -2147483648 ≤ dp + 1 ∧ dp + 1 < 2147483648 by omega) ?_
              show cw_C _ _ [vr x_forest_, vi t, vi a, vi j, vi (kk / (m cw_TREES ((b - j) - 1))), vi j, vi (dp + 1)] (cw_put m x_forest_deep_ ((t * 6) + j) dp) _
              have hm5 : la_ok (t_pm (cw_put m x_forest_deep_ ((t * 6) + j) dp) f t a (t_top n k) (t_lk n k) (dp + 1) j) := t_pm_ok hm3
              have e1 : j = a + t_top n k := by omega
              have z2 : kk / m cw_TREES ((b - j) - 1) = t_lk n k := by unfold t_lk; rw [F2, hc _ (by omega) (by omega)]; congr 2; omega
              have z3 : kk % m cw_TREES ((b - j) - 1) = t_rk n k := by unfold t_rk; rw [F2, hc _ (by omega) (by omega)]; congr 2; omega
              refine IH hm3 hc ht (by omega) (by omega) (by omega) (by omega) (by omega) o2 z2 (by omega) (by omega) (by omega) ⟨hm5, ?_⟩
              refine And.intro (show -2147483648 ≤ j + 1 ∧ j + 1 < 2147483648 by omega) ?_
              refine And.intro (show 0 ≤ kk ∧ 0 < m cw_TREES ((b - j) - 1) by omega) ?_
              refine And.intro (show -2147483648 ≤ dp + 1 ∧ dp + 1 < 2147483648 by omega) ?_
              show cw_C _ _ [vr x_forest_, vi t, vi (j + 1), vi b, vi (kk % (m cw_TREES ((b - j) - 1))), vi j, vi (dp + 1)] (t_pm (cw_put m x_forest_deep_ ((t * 6) + j) dp) f t a (t_top n k) (t_lk n k) (dp + 1) j) _
              have hm6 : la_ok (t_pm (t_pm (cw_put m x_forest_deep_ ((t * 6) + j) dp) f t a (t_top n k) (t_lk n k) (dp + 1) j) f t (j + 1) (n - t_top n k - 1) (t_rk n k) (dp + 1) j) := t_pm_ok hm5
              refine IH hm5 hc ht (by omega) (by omega) (by omega) (by omega) (by omega) o3 z3 (by omega) (by omega) (by omega) ⟨hm6, ?_⟩
              show Q none (t_pm (t_pm (cw_put m x_forest_deep_ ((t * 6) + j) dp) f t a (t_top n k) (t_lk n k) (dp + 1) j) f t (j + 1) (n - t_top n k - 1) (t_rk n k) (dp + 1) j)
              rw [t_pini (m := m) (ov := ov) ht ha hb6 hov hb (by omega) hk e1 (Or.inl ⟨by omega, rfl⟩)]
              exact hQ
            · refine And.intro (show -2147483648 ≤ ov * 6 ∧ ov * 6 < 2147483648 by omega) ?_
              refine And.intro (show -2147483648 ≤ (ov * 6) + j ∧ (ov * 6) + j < 2147483648 by omega) ?_
              refine And.intro (show -2147483648 ≤ ((ov * 6) + j) * 3 ∧ ((ov * 6) + j) * 3 < 2147483648 by omega) ?_
              refine And.intro (show -2147483648 ≤ (((ov * 6) + j) * 3) + (cw_ishr t 6) ∧ (((ov * 6) + j) * 3) + (cw_ishr t 6) < 2147483648 by omega) ?_
              refine And.intro (show 0 ≤ (((ov * 6) + j) * 3) + (cw_ishr t 6) ∧ (((ov * 6) + j) * 3) + (cw_ishr t 6) < 108 by omega) ?_
              refine And.intro (show 0 ≤ (((ov * 6) + j) * 3) + (cw_ishr t 6) ∧ (((ov * 6) + j) * 3) + (cw_ishr t 6) < 108 by omega) ?_
              have hm7 : la_ok (cw_put (cw_put m x_forest_deep_ ((t * 6) + j) dp) x_forest_above_ ((((ov * 6) + j) * 3) + (cw_ishr t 6)) (cw_lor (m x_forest_above_ ((((ov * 6) + j) * 3) + (cw_ishr t 6))) (cw_lshl 1 (cw_iand t 63)))) := la_put hm3 (by decide) (Or.inr (by decide))
              refine And.intro (show 0 ≤ kk ∧ kk < 2147483648 ∧ 0 < m cw_TREES ((b - j) - 1) by omega) ?_
              refine And.intro (show -2147483648 ≤ dp + 1 ∧ dp + 1 < 2147483648 by omega) ?_
              show cw_C _ _ [vr x_forest_, vi t, vi a, vi j, vi (kk / (m cw_TREES ((b - j) - 1))), vi j, vi (dp + 1)] (cw_put (cw_put m x_forest_deep_ ((t * 6) + j) dp) x_forest_above_ ((((ov * 6) + j) * 3) + (cw_ishr t 6)) (cw_lor (m x_forest_above_ ((((ov * 6) + j) * 3) + (cw_ishr t 6))) (cw_lshl 1 (cw_iand t 63)))) _
              have hm8 : la_ok (t_pm (cw_put (cw_put m x_forest_deep_ ((t * 6) + j) dp) x_forest_above_ ((((ov * 6) + j) * 3) + (cw_ishr t 6)) (cw_lor (m x_forest_above_ ((((ov * 6) + j) * 3) + (cw_ishr t 6))) (cw_lshl 1 (cw_iand t 63)))) f t a (t_top n k) (t_lk n k) (dp + 1) j) := t_pm_ok hm7
              have e1 : j = a + t_top n k := by omega
              have z2 : kk / m cw_TREES ((b - j) - 1) = t_lk n k := by unfold t_lk; rw [F2, hc _ (by omega) (by omega)]; congr 2; omega
              have z3 : kk % m cw_TREES ((b - j) - 1) = t_rk n k := by unfold t_rk; rw [F2, hc _ (by omega) (by omega)]; congr 2; omega
              refine IH hm7 hc ht (by omega) (by omega) (by omega) (by omega) (by omega) o2 z2 (by omega) (by omega) (by omega) ⟨hm8, ?_⟩
              refine And.intro (show -2147483648 ≤ j + 1 ∧ j + 1 < 2147483648 by omega) ?_
              refine And.intro (show 0 ≤ kk ∧ 0 < m cw_TREES ((b - j) - 1) by omega) ?_
              refine And.intro (show -2147483648 ≤ dp + 1 ∧ dp + 1 < 2147483648 by omega) ?_
              show cw_C _ _ [vr x_forest_, vi t, vi (j + 1), vi b, vi (kk % (m cw_TREES ((b - j) - 1))), vi j, vi (dp + 1)] (t_pm (cw_put (cw_put m x_forest_deep_ ((t * 6) + j) dp) x_forest_above_ ((((ov * 6) + j) * 3) + (cw_ishr t 6)) (cw_lor (m x_forest_above_ ((((ov * 6) + j) * 3) + (cw_ishr t 6))) (cw_lshl 1 (cw_iand t 63)))) f t a (t_top n k) (t_lk n k) (dp + 1) j) _
              have hm9 : la_ok (t_pm (t_pm (cw_put (cw_put m x_forest_deep_ ((t * 6) + j) dp) x_forest_above_ ((((ov * 6) + j) * 3) + (cw_ishr t 6)) (cw_lor (m x_forest_above_ ((((ov * 6) + j) * 3) + (cw_ishr t 6))) (cw_lshl 1 (cw_iand t 63)))) f t a (t_top n k) (t_lk n k) (dp + 1) j) f t (j + 1) (n - t_top n k - 1) (t_rk n k) (dp + 1) j) := t_pm_ok hm8
              refine IH hm8 hc ht (by omega) (by omega) (by omega) (by omega) (by omega) o3 z3 (by omega) (by omega) (by omega) ⟨hm9, ?_⟩
              show Q none (t_pm (t_pm (cw_put (cw_put m x_forest_deep_ ((t * 6) + j) dp) x_forest_above_ ((((ov * 6) + j) * 3) + (cw_ishr t 6)) (cw_lor (m x_forest_above_ ((((ov * 6) + j) * 3) + (cw_ishr t 6))) (cw_lshl 1 (cw_iand t 63)))) f t a (t_top n k) (t_lk n k) (dp + 1) j) f t (j + 1) (n - t_top n k - 1) (t_rk n k) (dp + 1) j)
              rw [t_pini (m := m) (ov := ov) ht ha hb6 hov hb (by omega) hk e1 (Or.inr ⟨by omega, rfl⟩)]
              exact hQ
    refine la_go_C hm 14 [20] ?_
    refine And.intro (fun (c : b ≤ a) => absurd c (by omega)) (fun _ => ?_)
    refine And.intro (fun (c : dp < 6) => ?_) (fun (c : ¬ dp < 6) => absurd c (by omega))
    refine loop n.toNat a k0 none none (by omega) ?_ ?_
    · rw [show a - a = 0 by omega, hk0]; rfl
    · have := t_cpos (n := n) (by omega); omega
