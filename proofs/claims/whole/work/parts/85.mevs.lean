def z_m (m : cw_M) (gp bk : Int) : cw_M := fun c => if c = m_ then (fun j => if j = 22 then gp else if j = 24 then bk else m m_ j) else m c
theorem z_m_ne {m : cw_M} {gp bk : Int} {c : Int} (h0 : c ≠ m_) : z_m m gp bk c = m c := by
  unfold z_m; rw [if_neg h0]
theorem z_m_om_ {m : cw_M} {gp bk : Int} {j : Int} (h0 : j ≠ 22) (h1 : j ≠ 24) : z_m m gp bk m_ j = m m_ j := by
  show (if j = 22 then gp else if j = 24 then bk else m m_ j) = _
  rw [if_neg h0, if_neg h1]
theorem z_m_ok {m : cw_M} {gp bk : Int} (hm : la_ok m) : la_ok (z_m m gp bk) := by
  refine ⟨by rw [z_m_ne (by decide)]; exact hm.1, fun e he => ?_⟩
  obtain ⟨z1, h2, -, z4⟩ := la_lok e he
  by_cases q0 : e.1 = m_
  · rw [q0, z_m_om_ (fun q => by rw [q0, q] at z4; cases z4) (fun q => by rw [q0, q] at z4; cases z4), ← q0]; exact hm.2 e he
  rw [z_m_ne  q0]; exact hm.2 e he
theorem z_m_x {m M : cw_M} {gp bk : Int}  (f0 : M m_ 22 = gp) (f1 : M m_ 24 = bk) (o0 : ∀ j, j ≠ 22 → j ≠ 24 → M m_ j = m m_ j) (h : ∀ c, c ≠ m_ → M c = m c) : M = z_m m gp bk := by
  funext c
  by_cases h0 : c = m_
  · funext j
    rw [h0]
    by_cases z0 : j = 22
    · rw [z0, f0]; rfl
    by_cases z1 : j = 24
    · rw [z1, f1]; rfl
    rw [o0 j z0 z1, z_m_om_ z0 z1]
  rw [h c h0, z_m_ne h0]
theorem z_m_fgp {m : cw_M} {gp bk : Int} {v : Int} : cw_put (z_m m gp bk) m_ 22 v = z_m m v bk := by
  refine z_m_x rfl rfl (fun j z0 z1 => by rw [cw_put_off z0, z_m_om_ z0 z1]) (fun c h0 => by rw [cw_put_ne h0, z_m_ne h0])
theorem z_m_fbk {m : cw_M} {gp bk : Int} {v : Int} : cw_put (z_m m gp bk) m_ 24 v = z_m m gp v := by
  refine z_m_x rfl rfl (fun j z0 z1 => by rw [cw_put_off z1, z_m_om_ z0 z1]) (fun c h0 => by rw [cw_put_ne h0, z_m_ne h0])
theorem z_m_2 {m : cw_M} {gp bk : Int} {gp' bk' : Int} : z_m (z_m m gp bk) gp' bk' = z_m m gp' bk' := by
  refine z_m_x rfl rfl (fun j z0 z1 => by rw [z_m_om_ z0 z1, z_m_om_ z0 z1]) (fun c h0 => by rw [z_m_ne h0, z_m_ne h0])
theorem z_m_self {m : cw_M} : z_m m  (m m_ 22) (m m_ 24) = m := by
  refine (z_m_x rfl rfl (fun _ _ _ => rfl) (fun _ _ => rfl)).symm
/-! The reference evaluates (wip/whole/tools/m85.py). -/
/-- only what readings() lays is another -/
def Z_r (o : Bool) (m M : cw_M) : Prop := (o = false → M = m) ∧ (∀ c, c ≠ m_low_ → c ≠ m_high_ → c ≠ m_marks_ → c ≠ m_treeOf_ → c ≠ m_ → M c = m c) ∧ ∀ j, j ≠ 32 → j ≠ 35 → M m_ j = m m_ j
theorem Z_rr {o : Bool} {m : cw_M} : Z_r o m m := ⟨fun _ => rfl, fun _ _ _ _ _ _ => rfl, fun _ _ _ => rfl⟩
theorem Z_rt {o : Bool} {m m1 m2 : cw_M} (h : Z_r o m m1) (h2 : Z_r o m1 m2) : Z_r o m m2 := ⟨fun q => by rw [h2.1 q, h.1 q], fun c a b d e f => by rw [h2.2.1 c a b d e f, h.2.1 c a b d e f], fun j a b => by rw [h2.2.2 j a b, h.2.2 j a b]⟩
def j_m (m : cw_M) (k : Int) : Int := if 0 ≤ k ∧ k < m m_kept_ 46 - 1 then m m_kept_ k else -1
def j_k (m : cw_M) (k : Int) : Int := if 0 ≤ k ∧ k < m m_kept_ 46 - 1 then m m_kept_ (6 + k) else -1
/-- the words of orders -/
def Z_o (m : cw_M) (E : Int → Int) : Prop := (∀ j, 0 ≤ j → j < 7 → m m_catalan_ j = t_c j) ∧ (0 ≤ m m_kept_ 46 ∧ m m_kept_ 46 ≤ 7) ∧ (∀ p, 0 ≤ p → p < 6 → m m_kept_ (12 + p) = 0 ∨ m m_kept_ (12 + p) = 1) ∧ E 0 = m m_kept_ 18 ∧ E 1 = m m_ 27 ∧ E 2 = m m_ 28 ∧ E 3 = ((r_l (m m_kept_) (m m_kept_ 46)).length : Int) ∧ E 4 = m m_kept_ 12 + m m_kept_ 13 + m m_kept_ 14 + m m_kept_ 15 + m m_kept_ 16 + m m_kept_ 17 ∧ ∀ k, 0 ≤ k → k ≤ 5 → E (5 + k) = j_m m k ∧ E (11 + k) = j_k m k
def Z_h (m : cw_M) (c v : Int → Int) (o : Bool) (n B : Int) (E : Int → Int) : Prop := ((0 ≤ n ∧ n ≤ 400) ∧ 0 ≤ B ∧ B ≤ 2400) ∧ c n = 0 ∧ m m_ 23 = B + n ∧ (∀ i, 0 ≤ i → i < n → m m_kept_ (58 + (B + i)) = c i ∧ m m_kept_ (2858 + (B + i)) = v i ∧ 0 ≤ v i) ∧ (m m_ 25 = if o = true then 1 else 0) ∧ (∀ i, 0 ≤ i → i < 17 → -1000000 ≤ E i ∧ E i ≤ 1000000) ∧ (o = false → ∀ j, 0 ≤ j → j < 8 → m m_asked_ j = E (p_lw (8 + j))) ∧ (o = true → Z_o m E)
theorem Z_hr {m M : cw_M} {c v E : Int → Int} {o : Bool} {n B : Int} (h : Z_h m c v o n B E) (hr : Z_r o m M) : Z_h M c v o n B E := by
  have ek : M m_kept_ = m m_kept_ := hr.2.1 _ (by decide) (by decide) (by decide) (by decide) (by decide)
  have ea : M m_asked_ = m m_asked_ := hr.2.1 _ (by decide) (by decide) (by decide) (by decide) (by decide)
  have ec : M m_catalan_ = m m_catalan_ := hr.2.1 _ (by decide) (by decide) (by decide) (by decide) (by decide)
  obtain ⟨h1, h2, h3, h4, h5, h6, h7, h8⟩ := h
  refine ⟨h1, h2, by rw [hr.2.2 23 (by decide) (by decide)]; exact h3, fun i a b => by rw [ek]; exact h4 i a b, by rw [hr.2.2 25 (by decide) (by decide)]; exact h5, h6, fun q j a b => by rw [ea]; exact h7 q j a b, fun q => ?_⟩
  have g := h8 q
  unfold Z_o at g ⊢
  unfold j_m j_k at g ⊢
  rw [ek, ec, hr.2.2 27 (by decide) (by decide), hr.2.2 28 (by decide) (by decide)]
  exact g
theorem z_m_r {m : cw_M} {gp bk tm rm : Int} {lo hi mk to : Int → Int} : r_m (z_m m gp bk) lo hi mk to tm rm = z_m (r_m m lo hi mk to tm rm) gp bk := by
  refine z_m_x rfl rfl (fun j z0 z1 => ?_) (fun c h0 => ?_)
  · by_cases q1 : j = 32
    · rw [q1]; rfl
    by_cases q2 : j = 35
    · rw [q2]; rfl
    rw [r_m_om_ q1 q2, z_m_om_ z0 z1, r_m_om_ q1 q2]
  · by_cases q1 : c = m_low_
    · rw [q1]; rfl
    by_cases q2 : c = m_high_
    · rw [q2]; rfl
    by_cases q3 : c = m_marks_
    · rw [q3]; rfl
    by_cases q4 : c = m_treeOf_
    · rw [q4]; rfl
    rw [r_m_ne q1 q2 q3 q4 h0, r_m_ne q1 q2 q3 q4 h0, z_m_ne h0]
theorem Z_rrm {m : cw_M} {tm rm : Int} {lo hi mk to : Int → Int} : Z_r true m (r_m m lo hi mk to tm rm) := ⟨fun q => (by cases q), fun c h0 h1 h2 h3 h4 => r_m_ne h0 h1 h2 h3 h4, fun j h0 h1 => r_m_om_ h0 h1⟩
theorem M_codeAtZ {d : Nat} {m : cw_M} {Q : Option cw_V → cw_M → Prop} {c v E : Int → Int} {o : Bool} {n B : Int} (hm0 : la_ok m) (hZ : Z_h m c v o n B E) {g0 b0 k i0 : Int} (h0 : 0 ≤ i0) (h1 : i0 ≤ n) (hk : k = B + i0) (h : Q (some (vi (c i0))) (z_m m g0 b0)) : cw_C d k_M_codeAt [vr m_, vi k] (z_m m g0 b0) Q := by
  have hm : la_ok (z_m m g0 b0) := z_m_ok hm0
  have y1 := hZ.1
  have y3 := hZ.2.2.1
  refine la_go_C hm 15 [] ?_
  refine And.intro (fun (c21 : m m_ 23 ≤ k) => ?_) (fun (c21 : ¬ (m m_ 23 ≤ k)) => ?_)
  · show Q (some (vi 0)) (z_m m g0 b0)
    rw [show i0 = n by omega, hZ.2.1] at h
    exact h
  · refine And.intro (show -2147483648 ≤ 58 + k ∧ 58 + k < 2147483648 by omega) ?_
    refine And.intro (show 0 ≤ 58 + k ∧ 58 + k < 5658 by omega) ?_
    show Q (some (vi (m m_kept_ (58 + k)))) (z_m m g0 b0)
    have y := (hZ.2.2.2.1 i0 h0 (by omega)).1
    rw [hk, y]
    exact h
theorem M_passes0Z {d : Nat} {m : cw_M} {Q : Option cw_V → cw_M → Prop} {c v E : Int → Int} {o : Bool} {n B : Int} (hm0 : la_ok m) (hZ : Z_h m c v o n B E) {g0 b0 i0 ch : Int} (h0 : 0 ≤ i0) (h1 : i0 ≤ n) (hg : g0 = B + i0) (k1 : c i0 = ch → Q (some (vi 1)) (z_m m (g0 + 1) b0)) (k0 : c i0 ≠ ch → Q (some (vi 0)) (z_m m g0 b0)) : cw_C (d + 1) k_M_passes0 [vr m_, vi ch] (z_m m g0 b0) Q := by
  have hm : la_ok (z_m m g0 b0) := z_m_ok hm0
  have y1 := hZ.1
  refine la_go_C hm 22 [] ?_
  show cw_C _ _ [vr m_, vi g0] (z_m m g0 b0) _
  refine M_codeAtZ hm0 hZ (i0 := i0) (by omega) (by omega) (by omega) ⟨hm, ?_⟩
  refine And.intro (fun (c21 : c i0 ≠ ch) => ?_) (fun (c21 : ¬ (c i0 ≠ ch)) => ?_)
  · refine br_t (show (0 : Int) = 0 by decide) ?_
    refine And.intro (Or.inl rfl) ?_
    show Q (some (vi 0)) (z_m m g0 b0)
    exact k0 (by omega)
  · refine br_f (show ¬ ((1 : Int) = 0) by decide) ?_
    refine And.intro (show -2147483648 ≤ g0 + 1 ∧ g0 + 1 < 2147483648 by omega) ?_
    have hm22 : la_ok (cw_put (z_m m g0 b0) m_ 22 (g0 + 1)) := la_put hm (by decide) (Or.inl rfl)
    refine And.intro (Or.inr rfl) ?_
    show Q (some (vi 1)) (cw_put (z_m m g0 b0) m_ 22 (g0 + 1))
    rw [z_m_fgp]
    have hm23 : la_ok (z_m m (g0 + 1) b0) := z_m_ok hm0
    exact k1 (by omega)
theorem M_passes0Z1 {d : Nat} {m : cw_M} {Q : Option cw_V → cw_M → Prop} {c v E : Int → Int} {o : Bool} {n B : Int} (hm0 : la_ok m) (hZ : Z_h m c v o n B E) {g0 b0 i0 ch : Int} (h0 : 0 ≤ i0) (h1 : i0 ≤ n) (hg : g0 = B + i0) (hc : c i0 = ch) (k1 : Q (some (vi 1)) (z_m m (g0 + 1) b0)) : cw_C (d + 1) k_M_passes0 [vr m_, vi ch] (z_m m g0 b0) Q := M_passes0Z hm0 hZ h0 h1 hg (fun _ => k1) (fun q => absurd hc q)
theorem M_passes0Z0 {d : Nat} {m : cw_M} {Q : Option cw_V → cw_M → Prop} {c v E : Int → Int} {o : Bool} {n B : Int} (hm0 : la_ok m) (hZ : Z_h m c v o n B E) {g0 b0 i0 ch : Int} (h0 : 0 ≤ i0) (h1 : i0 ≤ n) (hg : g0 = B + i0) (hc : c i0 ≠ ch) (k0 : Q (some (vi 0)) (z_m m g0 b0)) : cw_C (d + 1) k_M_passes0 [vr m_, vi ch] (z_m m g0 b0) Q := M_passes0Z hm0 hZ h0 h1 hg (fun q => absurd q hc) (fun _ => k0)
theorem M_boundedZ {d : Nat} {m : cw_M} {Q : Option cw_V → cw_M → Prop} (hm0 : la_ok m) {g0 b0 t lv : Int} (hlv : lv = 0 ∨ lv = 1) (hb : b0 = 0 ∨ b0 = 1) (h : ∀ r2 b2, b_d lv t b0 r2 b2 → Q (some (vl r2)) (z_m m g0 b2)) : cw_C d k_M_bounded [vr m_, vl t, vi lv] (z_m m g0 b0) Q := by
  have hm : la_ok (z_m m g0 b0) := z_m_ok hm0
  refine la_go_C hm 22 [] ?_
  refine And.intro (fun (c21 : lv = 0) => ?_) (fun (c21 : ¬ (lv = 0)) => ?_)
  · refine And.intro (fun (c22 : b0 = 0) => ?_) (fun (c22 : ¬ (b0 = 0)) => ?_)
    · show Q (some (vl t)) (z_m m g0 b0)
      refine h _ _ ?_
      have l1 := lc_le (x := t) (y := 1000000000)
      have l2 := lc_lt (x := t) (y := -1000000000)
      unfold b_d
      omega
    · show Q (some (vl 0)) (z_m m g0 b0)
      refine h _ _ ?_
      have l1 := lc_le (x := t) (y := 1000000000)
      have l2 := lc_lt (x := t) (y := -1000000000)
      unfold b_d
      omega
  · refine And.intro (fun (c23 : 0 < cw_lc t 1000000000) => ?_) (fun (c23 : ¬ (0 < cw_lc t 1000000000)) => ?_)
    · refine And.intro (Or.inr rfl) ?_
      have hm24 : la_ok (cw_put (z_m m g0 b0) m_ 24 1) := la_put hm (by decide) (Or.inl rfl)
      refine br_f (show ¬ ((1 : Int) = 0) by decide) ?_
      show Q (some (vl 0)) (cw_put (z_m m g0 b0) m_ 24 1)
      rw [z_m_fbk]
      have hm25 : la_ok (z_m m g0 1) := z_m_ok hm0
      refine h _ _ ?_
      have l1 := lc_le (x := t) (y := 1000000000)
      have l2 := lc_lt (x := t) (y := -1000000000)
      unfold b_d
      omega
    · refine And.intro (fun (c26 : 0 ≤ cw_lc t (-1000000000)) => ?_) (fun (c26 : ¬ (0 ≤ cw_lc t (-1000000000))) => ?_)
      · refine And.intro (fun (c27 : b0 = 0) => ?_) (fun (c27 : ¬ (b0 = 0)) => ?_)
        · show Q (some (vl t)) (z_m m g0 b0)
          refine h _ _ ?_
          have l1 := lc_le (x := t) (y := 1000000000)
          have l2 := lc_lt (x := t) (y := -1000000000)
          unfold b_d
          omega
        · show Q (some (vl 0)) (z_m m g0 b0)
          refine h _ _ ?_
          have l1 := lc_le (x := t) (y := 1000000000)
          have l2 := lc_lt (x := t) (y := -1000000000)
          unfold b_d
          omega
      · refine And.intro (Or.inr rfl) ?_
        have hm28 : la_ok (cw_put (z_m m g0 b0) m_ 24 1) := la_put hm (by decide) (Or.inl rfl)
        refine br_f (show ¬ ((1 : Int) = 0) by decide) ?_
        show Q (some (vl 0)) (cw_put (z_m m g0 b0) m_ 24 1)
        rw [z_m_fbk]
        have hm29 : la_ok (z_m m g0 1) := z_m_ok hm0
        refine h _ _ ?_
        have l1 := lc_le (x := t) (y := 1000000000)
        have l2 := lc_lt (x := t) (y := -1000000000)
        unfold b_d
        omega
theorem M_joinM {d : Nat} {m : cw_M} {Q : Option cw_V → cw_M → Prop} (hm : la_ok m) (hn : 0 ≤ m m_kept_ 46 ∧ m m_kept_ 46 ≤ 7) {j : Int} (h : Q (some (vi (j_m m j))) m) : cw_C (d + 3) k_M_join [vr m_, vi j, vi 1] m Q := by
  unfold j_m at h
  refine M_join hm hn (fun a b e => by omega) (fun a b _ => ?_) (fun a => ?_)
  · rw [if_pos ⟨a, b⟩] at h; rw [show (0 : Int) + j = j by omega]; exact h
  · rw [if_neg (by omega)] at h; exact h
theorem M_joinK {d : Nat} {m : cw_M} {Q : Option cw_V → cw_M → Prop} (hm : la_ok m) (hn : 0 ≤ m m_kept_ 46 ∧ m m_kept_ 46 ≤ 7) {j : Int} (h : Q (some (vi (j_k m j))) m) : cw_C (d + 3) k_M_join [vr m_, vi j, vi 0] m Q := by
  unfold j_k at h
  refine M_join hm hn (fun a b _ => ?_) (fun a b e => by omega) (fun a => ?_)
  · rw [if_pos ⟨a, b⟩] at h; exact h
  · rw [if_neg (by omega)] at h; exact h
theorem M_orderValueZ {d : Nat} {m : cw_M} {Q : Option cw_V → cw_M → Prop} (hm0 : la_ok m) {E : Int → Int} {g0 b0 w k : Int} (hO : Z_o m E) (hw : 15 ≤ w ∧ w ≤ 21) (hk : 0 ≤ k ∧ k ≤ 5) (h : ∀ m2, la_ok m2 → Z_r true m m2 → Q (some (vi (E (p_wn true w k)))) (z_m m2 g0 b0)) : cw_C (d + 10) k_M_orderValue [vr m_, vi w, vi k] (z_m m g0 b0) Q := by
  have hm : la_ok (z_m m g0 b0) := z_m_ok hm0
  obtain ⟨hc, hn, hlv, y0, y1, y2, y3, y4, yk⟩ := hO
  refine la_go_C hm 5 [1] ?_
  refine la_ts rfl ?_
  by_cases hx : w = 15
  · rw [show cw_ts 1 80 15 21 #[57, 65, 70, 75, 80, 43, 50] w = _ by rw [hx]]
    show cw_R _ _ 58 _ _ _ _
    refine la_go_R hm 8 [1] ?_
    refine And.intro (show 0 ≤ 18 ∧ 18 < 5658 by omega) ?_
    show Q (some (vi (m m_kept_ 18))) (z_m m g0 b0)
    rw [← y0]
    rw [show p_wn true w k = 0 by unfold p_wn; rw [if_pos rfl, if_neg (by omega), if_neg (by omega)]; omega] at h
    exact h m hm0 Z_rr
  by_cases hx : w = 16
  · rw [show cw_ts 1 80 15 21 #[57, 65, 70, 75, 80, 43, 50] w = _ by rw [hx]]
    show cw_R _ _ 66 _ _ _ _
    refine la_go_R hm 6 [1] ?_
    show Q (some (vi (m m_ 27))) (z_m m g0 b0)
    rw [← y1]
    rw [show p_wn true w k = 1 by unfold p_wn; rw [if_pos rfl, if_neg (by omega), if_neg (by omega)]; omega] at h
    exact h m hm0 Z_rr
  by_cases hx : w = 17
  · rw [show cw_ts 1 80 15 21 #[57, 65, 70, 75, 80, 43, 50] w = _ by rw [hx]]
    show cw_R _ _ 71 _ _ _ _
    refine la_go_R hm 6 [1] ?_
    show Q (some (vi (m m_ 28))) (z_m m g0 b0)
    rw [← y2]
    rw [show p_wn true w k = 2 by unfold p_wn; rw [if_pos rfl, if_neg (by omega), if_neg (by omega)]; omega] at h
    exact h m hm0 Z_rr
  by_cases hx : w = 18
  · rw [show cw_ts 1 80 15 21 #[57, 65, 70, 75, 80, 43, 50] w = _ by rw [hx]]
    show cw_R _ _ 76 _ _ _ _
    refine la_go_R hm 6 [1] ?_
    show cw_C _ _ [vr m_] (z_m m g0 b0) _
    refine M_readings hm hc hn (fun lo hi mk to _ _ _ => ⟨(r_m_ok hm), ?_⟩)
    show Q (some (vi ((r_l (m m_kept_) (m m_kept_ 46)).length : Int))) (r_m (z_m m g0 b0) lo hi mk to (t_tm (m m_kept_ 46)) ((r_l (m m_kept_) (m m_kept_ 46)).length : Int))
    rw [z_m_r]
    rw [← y3]
    rw [show p_wn true w k = 3 by unfold p_wn; rw [if_pos rfl, if_neg (by omega), if_neg (by omega)]; omega] at h
    exact h _ (r_m_ok hm0) Z_rrm
  by_cases hx : w = 19
  · rw [show cw_ts 1 80 15 21 #[57, 65, 70, 75, 80, 43, 50] w = _ by rw [hx]]
    show cw_R _ _ 81 _ _ _ _
    refine la_go_R hm 6 [1] ?_
    show cw_C _ _ [vr m_] (z_m m g0 b0) _
    refine M_livingMany hm hlv ⟨hm, ?_⟩
    show Q (some (vi (m m_kept_ 12 + m m_kept_ 13 + m m_kept_ 14 + m m_kept_ 15 + m m_kept_ 16 + m m_kept_ 17))) (z_m m g0 b0)
    rw [← y4]
    rw [show p_wn true w k = 4 by unfold p_wn; rw [if_pos rfl, if_neg (by omega), if_neg (by omega)]; omega] at h
    exact h m hm0 Z_rr
  by_cases hx : w = 20
  · rw [show cw_ts 1 80 15 21 #[57, 65, 70, 75, 80, 43, 50] w = _ by rw [hx]]
    show cw_R _ _ 44 _ _ _ _
    refine la_go_R hm 8 [1] ?_
    show cw_C _ _ [vr m_, vi k, vi 1] (z_m m g0 b0) _
    refine M_joinM hm hn ⟨hm, ?_⟩
    show Q (some (vi (j_m m k))) (z_m m g0 b0)
    rw [← (yk k hk.1 hk.2).1] ; rw [show p_wn true w k = 5 + k by unfold p_wn; rw [if_pos rfl, if_pos (by omega)]] at h
    exact h m hm0 Z_rr
  by_cases hx : w = 21
  · rw [show cw_ts 1 80 15 21 #[57, 65, 70, 75, 80, 43, 50] w = _ by rw [hx]]
    show cw_R _ _ 51 _ _ _ _
    refine la_go_R hm 8 [1] ?_
    show cw_C _ _ [vr m_, vi k, vi 0] (z_m m g0 b0) _
    refine M_joinK hm hn ⟨hm, ?_⟩
    show Q (some (vi (j_k m k))) (z_m m g0 b0)
    rw [← (yk k hk.1 hk.2).2] ; rw [show p_wn true w k = 11 + k by unfold p_wn; rw [if_pos rfl, if_neg (by omega), if_pos (by omega)]] at h
    exact h m hm0 Z_rr
  rw [la_tsd (by omega)]
  show cw_R _ _ 81 _ _ _ _
  refine la_go_R hm 6 [1] ?_
  show cw_C _ _ [vr m_] (z_m m g0 b0) _
  refine M_livingMany hm hlv ⟨hm, ?_⟩
  show Q (some (vi (m m_kept_ 12 + m m_kept_ 13 + m m_kept_ 14 + m m_kept_ 15 + m m_kept_ 16 + m m_kept_ 17))) (z_m m g0 b0)
  rw [← y4]
  rw [show p_wn true w k = 4 by unfold p_wn; rw [if_pos rfl, if_neg (by omega), if_neg (by omega)]; omega] at h
  exact h m hm0 Z_rr
theorem M_evS {c v E : Int → Int} {o : Bool} {n B : Int} : ∀ (f : Nat), (∀ (d : Nat) (m : cw_M) (dp i0 l : Int) (acc : p_D) (i1 l1 : Int) (D : p_D) (g0 lv b0 : Int) (Q : Option cw_V → cw_M → Prop), la_ok m → Z_h m c v o n B E → 0 ≤ i0 → i0 ≤ n → 0 ≤ l → l ≤ 50 → 0 ≤ dp → dp ≤ 8 → (lv = 0 ∨ lv = 1) → (b0 = 0 ∨ b0 = 1) → g0 = B + i0 → 35 - 3 * dp ≤ d → 1 + 5 * (n - i0) ≤ f → p_s c v o f 0 dp i0 l acc = .ok (i1, l1, D) → (∀ m2 g2 r b2, la_ok m2 → Z_r o m m2 → g2 = B + i1 → W_s lv b0 (D E) r b2 → Q (some (vl r)) (z_m m2 g2 b2)) → cw_C d k_M_partOf [vr m_, vi lv] (z_m m g0 b0) Q) ∧ (∀ (d : Nat) (m : cw_M) (dp i0 l : Int) (acc : p_D) (i1 l1 : Int) (D : p_D) (g0 lv b0 : Int) (Q : Option cw_V → cw_M → Prop), la_ok m → Z_h m c v o n B E → 0 ≤ i0 → i0 ≤ n → 0 ≤ l → l ≤ 50 → 0 ≤ dp → dp ≤ 8 → (lv = 0 ∨ lv = 1) → (b0 = 0 ∨ b0 = 1) → g0 = B + i0 → 36 - 3 * dp ≤ d → 2 + 5 * (n - i0) ≤ f → p_s c v o f 1 dp i0 l acc = .ok (i1, l1, D) → (∀ m2 g2 r b2, la_ok m2 → Z_r o m m2 → g2 = B + i1 → W_s lv b0 (D E) r b2 → Q (some (vl r)) (z_m m2 g2 b2)) → cw_C d k_M_termOf [vr m_, vi lv] (z_m m g0 b0) Q) ∧ (∀ (d : Nat) (m : cw_M) (dp i0 l : Int) (acc : p_D) (i1 l1 : Int) (D : p_D) (g0 lv b0 : Int) (r0 b1 : Int) (w4 w5 w6 : cw_V) (Q : Option cw_V → cw_M → Prop), la_ok m → Z_h m c v o n B E → 0 ≤ i0 → i0 ≤ n → 0 ≤ l → l ≤ 50 → 0 ≤ dp → dp ≤ 8 → (lv = 0 ∨ lv = 1) → (b0 = 0 ∨ b0 = 1) → g0 = B + i0 → 36 - 3 * dp ≤ d → 1 + 5 * (n - i0) ≤ f → W_s lv b0 (acc E) r0 b1 → p_s c v o f 2 dp i0 l acc = .ok (i1, l1, D) → (∀ m2 g2 r b2, la_ok m2 → Z_r o m m2 → g2 = B + i1 → W_s lv b0 (D E) r b2 → Q (some (vl r)) (z_m m2 g2 b2)) → cw_R d k_M_termOf 6 [vr m_, vi lv, vl r0, none, w4, w5, w6] [] (z_m m g0 b1) Q) ∧ (∀ (d : Nat) (m : cw_M) (dp i0 l : Int) (acc : p_D) (i1 l1 : Int) (D : p_D) (g0 lv b0 : Int) (Q : Option cw_V → cw_M → Prop), la_ok m → Z_h m c v o n B E → 0 ≤ i0 → i0 ≤ n → 0 ≤ l → l ≤ 50 → 0 ≤ dp → dp ≤ 8 → (lv = 0 ∨ lv = 1) → (b0 = 0 ∨ b0 = 1) → g0 = B + i0 → 37 - 3 * dp ≤ d → 3 + 5 * (n - i0) ≤ f → p_s c v o f 3 dp i0 l acc = .ok (i1, l1, D) → (∀ m2 g2 r b2, la_ok m2 → Z_r o m m2 → g2 = B + i1 → W_s lv b0 (D E) r b2 → Q (some (vl r)) (z_m m2 g2 b2)) → cw_C d k_M_sumOf [vr m_, vi lv] (z_m m g0 b0) Q) ∧ (∀ (d : Nat) (m : cw_M) (dp i0 l : Int) (acc : p_D) (i1 l1 : Int) (D : p_D) (g0 lv b0 : Int) (r0 b1 : Int) (w4 w5 w6 : cw_V) (Q : Option cw_V → cw_M → Prop), la_ok m → Z_h m c v o n B E → 0 ≤ i0 → i0 ≤ n → 0 ≤ l → l ≤ 50 → 0 ≤ dp → dp ≤ 8 → (lv = 0 ∨ lv = 1) → (b0 = 0 ∨ b0 = 1) → g0 = B + i0 → 37 - 3 * dp ≤ d → 1 + 5 * (n - i0) ≤ f → W_s lv b0 (acc E) r0 b1 → p_s c v o f 4 dp i0 l acc = .ok (i1, l1, D) → (∀ m2 g2 r b2, la_ok m2 → Z_r o m m2 → g2 = B + i1 → W_s lv b0 (D E) r b2 → Q (some (vl r)) (z_m m2 g2 b2)) → cw_R d k_M_sumOf 6 [vr m_, vi lv, vl r0, none, w4, w5, w6] [] (z_m m g0 b1) Q)
  | 0 => ⟨fun d m dp i0 l acc i1 l1 D g0 lv b0 Q a1 a2 a3 a4 a5 a6 a7 a8 a9 aa ab ac ad => by omega, fun d m dp i0 l acc i1 l1 D g0 lv b0 Q a1 a2 a3 a4 a5 a6 a7 a8 a9 aa ab ac ad => by omega, fun d m dp i0 l acc i1 l1 D g0 lv b0 r0 b1 w4 w5 w6 Q a1 a2 a3 a4 a5 a6 a7 a8 a9 aa ab ac ad => by omega, fun d m dp i0 l acc i1 l1 D g0 lv b0 Q a1 a2 a3 a4 a5 a6 a7 a8 a9 aa ab ac ad => by omega, fun d m dp i0 l acc i1 l1 D g0 lv b0 r0 b1 w4 w5 w6 Q a1 a2 a3 a4 a5 a6 a7 a8 a9 aa ab ac ad => by omega⟩
  | f + 1 => by
    have ih := M_evS (c := c) (v := v) (E := E) (o := o) (n := n) (B := B) f
    refine ⟨?_, ?_, ?_, ?_, ?_⟩
    · intro d0 m dp i0 l acc i1 l1 D g0 lv b0 Q hm0 hZ h0 h1 hl0 hl1 hd0 hd8 hlv hb hg hd hf hp hQ
      obtain ⟨d, rfl⟩ : ∃ k, d0 = k + 11 := ⟨d0 - 11, by omega⟩
      have yn := hZ.1
      have hm : la_ok (z_m m g0 b0) := z_m_ok hm0
      have hlt : ∀ z, c z ≠ 0 → z ≤ n → z < n := fun z q z1 => by
        by_cases e : z = n
        · rw [e, hZ.2.1] at q; exact absurd rfl q
        · omega
      have y25 := hZ.2.2.2.2.1
      have yE := hZ.2.2.2.2.2.1
      rcases p_s0i hp with ⟨q1, q2, i2, q3, q4, q5⟩ | ⟨q1, q2, q3, q4⟩ | ⟨q0, q1, q2, q3, q4, q5⟩ | ⟨q1, q2, q3, q3a, q3b, q4, q5⟩
      · have N2 := p_Nok ((p_sN (c := c) (v := v) (o := o) hZ.2.1 f (dp := dp + 1) (i := i0 + 1) (l := l) (acc := acc) (by omega) (by have := hlt i0 (by omega) h1; omega) (by omega) (by omega)).2.2.2.1 (by have := hlt i0 (by omega) h1; omega)) q3
        have hi0 := hlt i0 (by omega) h1
        refine la_go_C hm 20 [] ?_
        show cw_C _ _ [vi 91] (z_m m g0 b0) _
        refine M_sign (by decide) rfl ⟨hm, ?_⟩
        show cw_C _ _ [vr m_, vi 191] (z_m m g0 b0) _
        refine M_passes0Z1 hm0 hZ (i0 := i0) (by omega) (by omega) (by omega) (by omega) ⟨(z_m_ok hm0), ?_⟩
        refine br_f (show ¬ ((1 : Int) = 0) by decide) ?_
        show cw_C _ _ [vr m_, vi lv] (z_m m (g0 + 1) b0) _
        refine ih.2.2.2.1 _ m (dp + 1) (i0 + 1) l acc _ _ _ (g0 + 1) lv b0 _ hm0 hZ (by omega) (by omega) (by omega) (by omega) (by omega) (by omega) (by omega) (by omega) (by omega) (by omega) (by omega) q3 (fun (m21 : cw_M) (g21 v21 b21 : Int) (hm21 : la_ok m21) (hz21 : Z_r o m m21) (hg21 : g21 = B + i2) (hW21 : W_s lv b0 (D E) v21 b21) => ⟨(z_m_ok hm21), ?_⟩)
        have hr21 : Z_r o m m21 := Z_rt Z_rr hz21
        have hZ21 : Z_h m21 c v o n B E := Z_hr hZ hr21
        have wb21 := hW21.1
        have wr21 := hW21.2.1
        obtain ⟨i21, hi21⟩ : ∃ z, z = i2 := ⟨_, rfl⟩
        refine And.intro (show -2147483648 ≤ g21 + 1 ∧ g21 + 1 < 2147483648 by omega) ?_
        have hm22 : la_ok (cw_put (z_m m21 g21 b21) m_ 22 (g21 + 1)) := la_put (z_m_ok hm21) (by decide) (Or.inl rfl)
        show Q (some (vl v21)) (cw_put (z_m m21 g21 b21) m_ 22 (g21 + 1))
        rw [z_m_fgp]
        have hm23 : la_ok (z_m m21 (g21 + 1) b21) := z_m_ok hm21
        exact hQ m21 _ _ _ hm21 hr21 (by omega) hW21
      · have hi0 := hlt i0 (by omega) h1
        have hvv := (hZ.2.2.2.1 i0 h0 hi0).2.2
        refine la_go_C hm 49 [] ?_
        show cw_C _ _ [vi 91] (z_m m g0 b0) _
        refine M_sign (by decide) rfl ⟨hm, ?_⟩
        show cw_C _ _ [vr m_, vi 191] (z_m m g0 b0) _
        refine M_passes0Z0 hm0 hZ (i0 := i0) (by omega) (by omega) (by omega) (by omega) ⟨hm, ?_⟩
        refine br_t (show (0 : Int) = 0 by decide) ?_
        show cw_C _ _ [vr m_, vi g0] (z_m m g0 b0) _
        refine M_codeAtZ hm0 hZ (i0 := i0) (by omega) (by omega) (by omega) ⟨hm, ?_⟩
        refine And.intro (show -2147483648 ≤ g0 + 1 ∧ g0 + 1 < 2147483648 by omega) ?_
        have hm21 : la_ok (cw_put (z_m m g0 b0) m_ 22 (g0 + 1)) := la_put hm (by decide) (Or.inl rfl)
        refine And.intro (fun (c22 : m m_ 25 = 0) => ?_) (fun (c22 : ¬ (m m_ 25 = 0)) => ?_)
        · refine And.intro (fun (c23 : lv = 0) => ?_) (fun (c23 : ¬ (lv = 0)) => ?_)
          · show Q (some (vl 0)) (cw_put (z_m m g0 b0) m_ 22 (g0 + 1))
            rw [z_m_fgp]
            have hm24 : la_ok (z_m m (g0 + 1) b0) := z_m_ok hm0
            refine hQ m _ _ _ hm0 Z_rr (by omega) ?_
            rw [q4]
            exact W_val hb (fun q => by omega) (fun q => rfl) (by omega)
          · refine And.intro (fun (c25 : b0 = 0) => ?_) (fun (c25 : ¬ (b0 = 0)) => ?_)
            · refine br_f (show ¬ (c i0 ≠ 50) by omega) ?_
              refine And.intro (show -2147483648 ≤ 2858 + (g0 + 1) ∧ 2858 + (g0 + 1) < 2147483648 by omega) ?_
              refine And.intro (show -2147483648 ≤ (2858 + (g0 + 1)) - 1 ∧ (2858 + (g0 + 1)) - 1 < 2147483648 by omega) ?_
              refine And.intro (show 0 ≤ (2858 + (g0 + 1)) - 1 ∧ (2858 + (g0 + 1)) - 1 < 5658 by omega) ?_
              show Q (some (vl (m m_kept_ ((2858 + (g0 + 1)) - 1)))) (cw_put (z_m m g0 b0) m_ 22 (g0 + 1))
              rw [z_m_fgp]
              have hm26 : la_ok (z_m m (g0 + 1) b0) := z_m_ok hm0
              refine hQ m _ _ _ hm0 Z_rr (by omega) ?_
              rw [q4]
              have yv := (hZ.2.2.2.1 i0 h0 hi0).2.1
              rw [hg, show 2858 + (B + i0 + 1) - 1 = 2858 + (B + i0) by omega, yv]
              exact W_val hb (fun q => rfl) (fun q => by omega) (by omega)
            · show Q (some (vl 0)) (cw_put (z_m m g0 b0) m_ 22 (g0 + 1))
              rw [z_m_fgp]
              have hm27 : la_ok (z_m m (g0 + 1) b0) := z_m_ok hm0
              refine hQ m _ _ _ hm0 Z_rr (by omega) ?_
              rw [q4]
              exact W_val hb (fun q => by omega) (fun q => rfl) (by omega)
        · refine br_f (show ¬ (c i0 = 20) by omega) ?_
          refine br_t (show c i0 ≠ 21 by omega) ?_
          refine And.intro (fun (c28 : lv = 0) => ?_) (fun (c28 : ¬ (lv = 0)) => ?_)
          · show Q (some (vl 0)) (cw_put (z_m m g0 b0) m_ 22 (g0 + 1))
            rw [z_m_fgp]
            have hm29 : la_ok (z_m m (g0 + 1) b0) := z_m_ok hm0
            refine hQ m _ _ _ hm0 Z_rr (by omega) ?_
            rw [q4]
            exact W_val hb (fun q => by omega) (fun q => rfl) (by omega)
          · refine And.intro (fun (c30 : b0 = 0) => ?_) (fun (c30 : ¬ (b0 = 0)) => ?_)
            · refine br_f (show ¬ (c i0 ≠ 50) by omega) ?_
              refine And.intro (show -2147483648 ≤ 2858 + (g0 + 1) ∧ 2858 + (g0 + 1) < 2147483648 by omega) ?_
              refine And.intro (show -2147483648 ≤ (2858 + (g0 + 1)) - 1 ∧ (2858 + (g0 + 1)) - 1 < 2147483648 by omega) ?_
              refine And.intro (show 0 ≤ (2858 + (g0 + 1)) - 1 ∧ (2858 + (g0 + 1)) - 1 < 5658 by omega) ?_
              show Q (some (vl (m m_kept_ ((2858 + (g0 + 1)) - 1)))) (cw_put (z_m m g0 b0) m_ 22 (g0 + 1))
              rw [z_m_fgp]
              have hm31 : la_ok (z_m m (g0 + 1) b0) := z_m_ok hm0
              refine hQ m _ _ _ hm0 Z_rr (by omega) ?_
              rw [q4]
              have yv := (hZ.2.2.2.1 i0 h0 hi0).2.1
              rw [hg, show 2858 + (B + i0 + 1) - 1 = 2858 + (B + i0) by omega, yv]
              exact W_val hb (fun q => rfl) (fun q => by omega) (by omega)
            · show Q (some (vl 0)) (cw_put (z_m m g0 b0) m_ 22 (g0 + 1))
              rw [z_m_fgp]
              have hm32 : la_ok (z_m m (g0 + 1) b0) := z_m_ok hm0
              refine hQ m _ _ _ hm0 Z_rr (by omega) ?_
              rw [q4]
              exact W_val hb (fun q => by omega) (fun q => rfl) (by omega)
      · have hi0 := hlt i0 (by omega) h1
        have hi1 := hlt (i0 + 1) (by omega) (by omega)
        have hO : Z_o m E := hZ.2.2.2.2.2.2.2 q0
        rw [if_pos q0] at y25
        have yv2 := (hZ.2.2.2.1 (i0 + 1) (by omega) hi1).2
        have hv2 : m m_kept_ (2858 + (g0 + 1)) = v (i0 + 1) := by rw [show g0 + 1 = B + (i0 + 1) by omega]; exact yv2.1
        have yw : 0 ≤ p_wn o (c i0) (v (i0 + 1)) ∧ p_wn o (c i0) (v (i0 + 1)) < 17 := by
          unfold p_wn
          rw [if_pos q0]
          rcases q1 with q1 | q1
          · rw [if_pos q1]; omega
          · rw [if_neg (by omega), if_pos q1]; omega
        refine la_go_C hm 62 [] ?_
        show cw_C _ _ [vi 91] (z_m m g0 b0) _
        refine M_sign (by decide) rfl ⟨hm, ?_⟩
        show cw_C _ _ [vr m_, vi 191] (z_m m g0 b0) _
        refine M_passes0Z0 hm0 hZ (i0 := i0) (by omega) (by omega) (by omega) (by omega) ⟨hm, ?_⟩
        refine br_t (show (0 : Int) = 0 by decide) ?_
        show cw_C _ _ [vr m_, vi g0] (z_m m g0 b0) _
        refine M_codeAtZ hm0 hZ (i0 := i0) (by omega) (by omega) (by omega) ⟨hm, ?_⟩
        refine And.intro (show -2147483648 ≤ g0 + 1 ∧ g0 + 1 < 2147483648 by omega) ?_
        have hm21 : la_ok (cw_put (z_m m g0 b0) m_ 22 (g0 + 1)) := la_put hm (by decide) (Or.inl rfl)
        refine br_f (show ¬ (m m_ 25 = 0) by omega) ?_
        refine And.intro (fun (c22 : c i0 = 20) => ?_) (fun (c22 : ¬ (c i0 = 20)) => ?_)
        · refine And.intro (show -2147483648 ≤ 2858 + (g0 + 1) ∧ 2858 + (g0 + 1) < 2147483648 by omega) ?_
          refine And.intro (show 0 ≤ 2858 + (g0 + 1) ∧ 2858 + (g0 + 1) < 5658 by omega) ?_
          refine And.intro (show -2147483648 ≤ (g0 + 1) + 1 ∧ (g0 + 1) + 1 < 2147483648 by omega) ?_
          have hm23 : la_ok (cw_put (cw_put (z_m m g0 b0) m_ 22 (g0 + 1)) m_ 22 ((g0 + 1) + 1)) := la_put hm21 (by decide) (Or.inl rfl)
          refine And.intro (fun (c24 : lv = 0) => ?_) (fun (c24 : ¬ (lv = 0)) => ?_)
          · show Q (some (vl 0)) (cw_put (cw_put (z_m m g0 b0) m_ 22 (g0 + 1)) m_ 22 ((g0 + 1) + 1))
            rw [z_m_fgp, z_m_fgp]
            have hm25 : la_ok (z_m m ((g0 + 1) + 1) b0) := z_m_ok hm0
            refine hQ m _ _ _ hm0 Z_rr (by omega) ?_
            rw [q5]
            exact W_val hb (fun q => by omega) (fun q => rfl) (by have := yE _ yw.1 yw.2; omega)
          · refine And.intro (fun (c26 : b0 = 0) => ?_) (fun (c26 : ¬ (b0 = 0)) => ?_)
            · refine br_t (show c i0 ≠ 50 by omega) ?_
              refine br_f (show ¬ (m m_ 25 = 0) by omega) ?_
              show cw_C _ _ [vr m_, vi (c i0), vi (m m_kept_ (2858 + (g0 + 1)))] (cw_put (cw_put (z_m m g0 b0) m_ 22 (g0 + 1)) m_ 22 ((g0 + 1) + 1)) _
              rw [z_m_fgp, z_m_fgp]
              have hm27 : la_ok (z_m m ((g0 + 1) + 1) b0) := z_m_ok hm0
              refine M_orderValueZ hm0 hO (by omega) (by omega) (fun (m28 : cw_M) (hm28 : la_ok m28) (hr28 : Z_r true m m28) => ⟨(z_m_ok hm28), ?_⟩)
              show Q (some (vl (E (p_wn true (c i0) (m m_kept_ (2858 + (g0 + 1))))))) (z_m m28 ((g0 + 1) + 1) b0)
              refine hQ m28 _ _ _ hm28 (by rw [q0]; exact hr28) (by omega) ?_
              rw [q5, q0]
              rw [q0] at yw
              exact W_val hb (fun q => by rw [hv2]) (fun q => by omega) (by have := yE _ yw.1 yw.2; omega)
            · show Q (some (vl 0)) (cw_put (cw_put (z_m m g0 b0) m_ 22 (g0 + 1)) m_ 22 ((g0 + 1) + 1))
              rw [z_m_fgp, z_m_fgp]
              have hm29 : la_ok (z_m m ((g0 + 1) + 1) b0) := z_m_ok hm0
              refine hQ m _ _ _ hm0 Z_rr (by omega) ?_
              rw [q5]
              exact W_val hb (fun q => by omega) (fun q => rfl) (by have := yE _ yw.1 yw.2; omega)
        · refine br_f (show ¬ (c i0 ≠ 21) by omega) ?_
          refine And.intro (show -2147483648 ≤ 2858 + (g0 + 1) ∧ 2858 + (g0 + 1) < 2147483648 by omega) ?_
          refine And.intro (show 0 ≤ 2858 + (g0 + 1) ∧ 2858 + (g0 + 1) < 5658 by omega) ?_
          refine And.intro (show -2147483648 ≤ (g0 + 1) + 1 ∧ (g0 + 1) + 1 < 2147483648 by omega) ?_
          have hm30 : la_ok (cw_put (cw_put (z_m m g0 b0) m_ 22 (g0 + 1)) m_ 22 ((g0 + 1) + 1)) := la_put hm21 (by decide) (Or.inl rfl)
          refine And.intro (fun (c31 : lv = 0) => ?_) (fun (c31 : ¬ (lv = 0)) => ?_)
          · show Q (some (vl 0)) (cw_put (cw_put (z_m m g0 b0) m_ 22 (g0 + 1)) m_ 22 ((g0 + 1) + 1))
            rw [z_m_fgp, z_m_fgp]
            have hm32 : la_ok (z_m m ((g0 + 1) + 1) b0) := z_m_ok hm0
            refine hQ m _ _ _ hm0 Z_rr (by omega) ?_
            rw [q5]
            exact W_val hb (fun q => by omega) (fun q => rfl) (by have := yE _ yw.1 yw.2; omega)
          · refine And.intro (fun (c33 : b0 = 0) => ?_) (fun (c33 : ¬ (b0 = 0)) => ?_)
            · refine br_t (show c i0 ≠ 50 by omega) ?_
              refine br_f (show ¬ (m m_ 25 = 0) by omega) ?_
              show cw_C _ _ [vr m_, vi (c i0), vi (m m_kept_ (2858 + (g0 + 1)))] (cw_put (cw_put (z_m m g0 b0) m_ 22 (g0 + 1)) m_ 22 ((g0 + 1) + 1)) _
              rw [z_m_fgp, z_m_fgp]
              have hm34 : la_ok (z_m m ((g0 + 1) + 1) b0) := z_m_ok hm0
              refine M_orderValueZ hm0 hO (by omega) (by omega) (fun (m35 : cw_M) (hm35 : la_ok m35) (hr35 : Z_r true m m35) => ⟨(z_m_ok hm35), ?_⟩)
              show Q (some (vl (E (p_wn true (c i0) (m m_kept_ (2858 + (g0 + 1))))))) (z_m m35 ((g0 + 1) + 1) b0)
              refine hQ m35 _ _ _ hm35 (by rw [q0]; exact hr35) (by omega) ?_
              rw [q5, q0]
              rw [q0] at yw
              exact W_val hb (fun q => by rw [hv2]) (fun q => by omega) (by have := yE _ yw.1 yw.2; omega)
            · show Q (some (vl 0)) (cw_put (cw_put (z_m m g0 b0) m_ 22 (g0 + 1)) m_ 22 ((g0 + 1) + 1))
              rw [z_m_fgp, z_m_fgp]
              have hm36 : la_ok (z_m m ((g0 + 1) + 1) b0) := z_m_ok hm0
              refine hQ m _ _ _ hm0 Z_rr (by omega) ?_
              rw [q5]
              exact W_val hb (fun q => by omega) (fun q => rfl) (by have := yE _ yw.1 yw.2; omega)
      · cases o with
        | true =>
          have q1 : 15 ≤ c i0 := q1
          have q2 : c i0 ≤ 21 := q2
          have hO : Z_o m E := hZ.2.2.2.2.2.2.2 rfl
          have y25 : m m_ 25 = 1 := y25
          have q3 : c i0 ≠ 20 ∧ c i0 ≠ 21 := ⟨fun q => q3 ⟨rfl, Or.inl q⟩, fun q => q3 ⟨rfl, Or.inr q⟩⟩
          have hi0 := hlt i0 (by omega) h1
          have yw : 0 ≤ p_wn true (c i0) 0 ∧ p_wn true (c i0) 0 < 17 := by
            unfold p_wn
            rw [if_pos rfl, if_neg (by omega), if_neg (by omega)]; omega
          refine la_go_C hm 48 [] ?_
          show cw_C _ _ [vi 91] (z_m m g0 b0) _
          refine M_sign (by decide) rfl ⟨hm, ?_⟩
          show cw_C _ _ [vr m_, vi 191] (z_m m g0 b0) _
          refine M_passes0Z0 hm0 hZ (i0 := i0) (by omega) (by omega) (by omega) (by omega) ⟨hm, ?_⟩
          refine br_t (show (0 : Int) = 0 by decide) ?_
          show cw_C _ _ [vr m_, vi g0] (z_m m g0 b0) _
          refine M_codeAtZ hm0 hZ (i0 := i0) (by omega) (by omega) (by omega) ⟨hm, ?_⟩
          refine And.intro (show -2147483648 ≤ g0 + 1 ∧ g0 + 1 < 2147483648 by omega) ?_
          have hm21 : la_ok (cw_put (z_m m g0 b0) m_ 22 (g0 + 1)) := la_put hm (by decide) (Or.inl rfl)
          refine br_f (show ¬ (m m_ 25 = 0) by omega) ?_
          refine br_f (show ¬ (c i0 = 20) by omega) ?_
          refine br_t (show c i0 ≠ 21 by omega) ?_
          refine And.intro (fun (c22 : lv = 0) => ?_) (fun (c22 : ¬ (lv = 0)) => ?_)
          · show Q (some (vl 0)) (cw_put (z_m m g0 b0) m_ 22 (g0 + 1))
            rw [z_m_fgp]
            have hm23 : la_ok (z_m m (g0 + 1) b0) := z_m_ok hm0
            refine hQ m _ _ _ hm0 Z_rr (by omega) ?_
            rw [q5]
            exact W_val hb (fun q => by omega) (fun q => rfl) (by have := yE _ yw.1 yw.2; omega)
          · refine And.intro (fun (c24 : b0 = 0) => ?_) (fun (c24 : ¬ (b0 = 0)) => ?_)
            · refine br_t (show c i0 ≠ 50 by omega) ?_
              refine br_f (show ¬ (m m_ 25 = 0) by omega) ?_
              show cw_C _ _ [vr m_, vi (c i0), vi 0] (cw_put (z_m m g0 b0) m_ 22 (g0 + 1)) _
              rw [z_m_fgp]
              have hm25 : la_ok (z_m m (g0 + 1) b0) := z_m_ok hm0
              refine M_orderValueZ hm0 hO (by omega) (by omega) (fun (m26 : cw_M) (hm26 : la_ok m26) (hr26 : Z_r true m m26) => ⟨(z_m_ok hm26), ?_⟩)
              show Q (some (vl (E (p_wn true (c i0) 0)))) (z_m m26 (g0 + 1) b0)
              refine hQ m26 _ _ _ hm26 hr26 (by omega) ?_
              rw [q5]
              exact W_val hb (fun q => rfl) (fun q => by omega) (by have := yE _ yw.1 yw.2; omega)
            · show Q (some (vl 0)) (cw_put (z_m m g0 b0) m_ 22 (g0 + 1))
              rw [z_m_fgp]
              have hm27 : la_ok (z_m m (g0 + 1) b0) := z_m_ok hm0
              refine hQ m _ _ _ hm0 Z_rr (by omega) ?_
              rw [q5]
              exact W_val hb (fun q => by omega) (fun q => rfl) (by have := yE _ yw.1 yw.2; omega)
        | false =>
          have q1 : 8 ≤ c i0 := q1
          have q2 : c i0 ≤ 15 := q2
          have y25 : m m_ 25 = 0 := y25
          have hi0 := hlt i0 (by omega) h1
          have yw : 0 ≤ p_wn false (c i0) 0 ∧ p_wn false (c i0) 0 < 17 := by
            show 0 ≤ p_lw (c i0) ∧ p_lw (c i0) < 17
            unfold p_lw
            split
            · omega
            · split <;> omega
          refine la_go_C hm 43 [] ?_
          show cw_C _ _ [vi 91] (z_m m g0 b0) _
          refine M_sign (by decide) rfl ⟨hm, ?_⟩
          show cw_C _ _ [vr m_, vi 191] (z_m m g0 b0) _
          refine M_passes0Z0 hm0 hZ (i0 := i0) (by omega) (by omega) (by omega) (by omega) ⟨hm, ?_⟩
          refine br_t (show (0 : Int) = 0 by decide) ?_
          show cw_C _ _ [vr m_, vi g0] (z_m m g0 b0) _
          refine M_codeAtZ hm0 hZ (i0 := i0) (by omega) (by omega) (by omega) ⟨hm, ?_⟩
          refine And.intro (show -2147483648 ≤ g0 + 1 ∧ g0 + 1 < 2147483648 by omega) ?_
          have hm21 : la_ok (cw_put (z_m m g0 b0) m_ 22 (g0 + 1)) := la_put hm (by decide) (Or.inl rfl)
          refine br_t (show m m_ 25 = 0 by omega) ?_
          refine And.intro (fun (c22 : lv = 0) => ?_) (fun (c22 : ¬ (lv = 0)) => ?_)
          · show Q (some (vl 0)) (cw_put (z_m m g0 b0) m_ 22 (g0 + 1))
            rw [z_m_fgp]
            have hm23 : la_ok (z_m m (g0 + 1) b0) := z_m_ok hm0
            refine hQ m _ _ _ hm0 Z_rr (by omega) ?_
            rw [q5]
            exact W_val hb (fun q => by omega) (fun q => rfl) (by have := yE _ yw.1 yw.2; omega)
          · refine And.intro (fun (c24 : b0 = 0) => ?_) (fun (c24 : ¬ (b0 = 0)) => ?_)
            · refine br_t (show c i0 ≠ 50 by omega) ?_
              refine br_t (show m m_ 25 = 0 by omega) ?_
              refine And.intro (show -2147483648 ≤ (c i0) - 8 ∧ (c i0) - 8 < 2147483648 by omega) ?_
              refine And.intro (show 0 ≤ (c i0) - 8 ∧ (c i0) - 8 < 8 by omega) ?_
              show Q (some (vl (m m_asked_ ((c i0) - 8)))) (cw_put (z_m m g0 b0) m_ 22 (g0 + 1))
              rw [z_m_fgp]
              have hm25 : la_ok (z_m m (g0 + 1) b0) := z_m_ok hm0
              refine hQ m _ _ _ hm0 Z_rr (by omega) ?_
              rw [q5]
              exact W_val hb (fun q => by have := hZ.2.2.2.2.2.2.1 rfl (c i0 - 8) (by omega) (by omega); rw [this, show 8 + (c i0 - 8) = c i0 by omega]; rfl) (fun q => by omega) (by have := yE _ yw.1 yw.2; omega)
            · show Q (some (vl 0)) (cw_put (z_m m g0 b0) m_ 22 (g0 + 1))
              rw [z_m_fgp]
              have hm26 : la_ok (z_m m (g0 + 1) b0) := z_m_ok hm0
              refine hQ m _ _ _ hm0 Z_rr (by omega) ?_
              rw [q5]
              exact W_val hb (fun q => by omega) (fun q => rfl) (by have := yE _ yw.1 yw.2; omega)
    · intro d0 m dp i0 l acc i1 l1 D g0 lv b0 Q hm0 hZ h0 h1 hl0 hl1 hd0 hd8 hlv hb hg hd hf hp hQ
      obtain ⟨d, rfl⟩ : ∃ k, d0 = k + 12 := ⟨d0 - 12, by omega⟩
      have yn := hZ.1
      have hm : la_ok (z_m m g0 b0) := z_m_ok hm0
      have hlt : ∀ z, c z ≠ 0 → z ≤ n → z < n := fun z q z1 => by
        by_cases e : z = n
        · rw [e, hZ.2.1] at q; exact absurd rfl q
        · omega
      obtain ⟨i2, l2, D2, e2, e3⟩ := p_s1i hp
      have N2 := p_Nok ((p_sN (c := c) (v := v) (o := o) hZ.2.1 f (dp := dp) (i := i0) (l := l) (acc := acc) (by omega) (by omega) (by omega) (by omega)).1 (by omega)) e2
      refine la_go_C hm 7 [6] ?_
      show cw_C _ _ [vr m_, vi lv] (z_m m g0 b0) _
      refine ih.1 _ m dp i0 l acc _ _ _ g0 lv b0 _ hm0 hZ (by omega) (by omega) (by omega) (by omega) (by omega) (by omega) (by omega) (by omega) (by omega) (by omega) (by omega) e2 (fun (m21 : cw_M) (g21 v21 b21 : Int) (hm21 : la_ok m21) (hz21 : Z_r o m m21) (hg21 : g21 = B + i2) (hW21 : W_s lv b0 (D2 E) v21 b21) => ⟨(z_m_ok hm21), ?_⟩)
      have hr21 : Z_r o m m21 := Z_rt Z_rr hz21
      have hZ21 : Z_h m21 c v o n B E := Z_hr hZ hr21
      have wb21 := hW21.1
      have wr21 := hW21.2.1
      obtain ⟨i21, hi21⟩ : ∃ z, z = i2 := ⟨_, rfl⟩
      show cw_R _ _ 6 [vr m_, vi lv, vl v21, none, none, none, none] [] (z_m m21 g21 b21) _
      exact ih.2.2.1 _ m21 dp i2 l2 D2 _ _ _ g21 lv b0 v21 b21 _ _ _ Q hm21 hZ21 (by omega) (by omega) (by omega) (by omega) (by omega) (by omega) (by omega) (by omega) (by omega) (by omega) (by omega) hW21 e3 (fun mz gz rz bz a1 a2 a3 a4 => hQ mz gz rz bz a1 (Z_rt hr21 a2) a3 a4)
    · intro d0 m dp i0 l acc i1 l1 D g0 lv b0 r0 b1 w4 w5 w6 Q hm0 hZ h0 h1 hl0 hl1 hd0 hd8 hlv hb hg hd hf hW hp hQ
      obtain ⟨d, rfl⟩ : ∃ k, d0 = k + 12 := ⟨d0 - 12, by omega⟩
      have yn := hZ.1
      have hm : la_ok (z_m m g0 b1) := z_m_ok hm0
      have hlt : ∀ z, c z ≠ 0 → z ≤ n → z < n := fun z q z1 => by
        by_cases e : z = n
        · rw [e, hZ.2.1] at q; exact absurd rfl q
        · omega
      have wb1 := hW.1
      have wr0 := hW.2.1
      rcases p_s2i hp with ⟨p1, i2, l2, D2, e2, e3⟩ | ⟨p1, p3⟩
      · have hi0 := hlt i0 (by omega) h1
        have N2 := p_Nok ((p_sN (c := c) (v := v) (o := o) hZ.2.1 f (dp := dp) (i := i0 + 1) (l := l) (acc := acc) (by omega) (by omega) (by omega) (by omega)).1 (by omega)) e2
        refine la_go_R hm 74 [6] ?_
        show cw_C _ _ [vr m_, vi g0] (z_m m g0 b1) _
        refine M_codeAtZ hm0 hZ (i0 := i0) (by omega) (by omega) (by omega) ⟨hm, ?_⟩
        show cw_C _ _ [vi 42] (z_m m g0 b1) _
        refine M_sign (by decide) rfl ⟨hm, ?_⟩
        refine And.intro (fun (c21 : c i0 = 142) => ?_) (fun (c21 : ¬ (c i0 = 142)) => ?_)
        · show cw_C _ _ [vr m_, vi g0] (z_m m g0 b1) _
          refine M_codeAtZ hm0 hZ (i0 := i0) (by omega) (by omega) (by omega) ⟨hm, ?_⟩
          refine And.intro (show -2147483648 ≤ g0 + 1 ∧ g0 + 1 < 2147483648 by omega) ?_
          have hm22 : la_ok (cw_put (z_m m g0 b1) m_ 22 (g0 + 1)) := la_put hm (by decide) (Or.inl rfl)
          show cw_C _ _ [vr m_, vi lv] (cw_put (z_m m g0 b1) m_ 22 (g0 + 1)) _
          rw [z_m_fgp]
          have hm23 : la_ok (z_m m (g0 + 1) b1) := z_m_ok hm0
          refine ih.1 _ m dp (i0 + 1) l acc _ _ _ (g0 + 1) lv b1 _ hm0 hZ (by omega) (by omega) (by omega) (by omega) (by omega) (by omega) (by omega) (by omega) (by omega) (by omega) (by omega) e2 (fun (m24 : cw_M) (g24 v24 b24 : Int) (hm24 : la_ok m24) (hz24 : Z_r o m m24) (hg24 : g24 = B + i2) (hW24 : W_s lv b1 (D2 E) v24 b24) => ⟨(z_m_ok hm24), ?_⟩)
          have hr24 : Z_r o m m24 := Z_rt Z_rr hz24
          have hZ24 : Z_h m24 c v o n B E := Z_hr hZ hr24
          have wb24 := hW24.1
          have wr24 := hW24.2.1
          obtain ⟨i24, hi24⟩ : ∃ z, z = i2 := ⟨_, rfl⟩
          show cw_C _ _ [vi 42] (z_m m24 g24 b24) _
          refine M_sign (by decide) rfl ⟨(z_m_ok hm24), ?_⟩
          refine br_t (show c i0 = 142 by omega) ?_
          show cw_C _ _ [vi 42] (z_m m24 g24 b24) _
          refine M_sign (by decide) rfl ⟨(z_m_ok hm24), ?_⟩
          refine br_f (show ¬ (c i0 ≠ 142) by omega) ?_
          refine And.intro (show -9223372036854775808 ≤ r0 * v24 ∧ r0 * v24 < 9223372036854775808 by exact e_mul (by omega) (by omega)) ?_
          show cw_C _ _ [vr m_, vl (r0 * v24), vi lv] (z_m m24 g24 b24) _
          refine M_boundedZ hm24 (by omega) (by omega) (fun (v25 b25 : Int) (hb25 : b_d lv (r0 * v24) b24 v25 b25) => ⟨(z_m_ok hm24), ?_⟩)
          show cw_R _ _ 6 [vr m_, vi lv, vl v25, none, vi (c i0), vl v24, none] [] (z_m m24 g24 b25) _
          have hW2 : W_s lv b0 (p_bin (c i0) acc D2 E) v25 b25 := by
            refine W_op (w' := v24) (b1' := b24) hlv hb (by omega) hW hW24 (by omega) ?_ hb25
            unfold o_v
            rw [if_neg (by omega), if_neg (by omega), if_pos (by omega)]
          exact ih.2.2.1 _ m24 dp i2 l2 _ _ _ _ g24 lv b0 v25 b25 _ _ _ Q hm24 hZ24 (by omega) (by omega) (by omega) (by omega) (by omega) (by omega) (by omega) (by omega) (by omega) (by omega) (by omega) hW2 e3 (fun mz gz rz bz a1 a2 a3 a4 => hQ mz gz rz bz a1 (Z_rt hr24 a2) a3 a4)
        · show cw_C _ _ [vr m_, vi g0] (z_m m g0 b1) _
          refine M_codeAtZ hm0 hZ (i0 := i0) (by omega) (by omega) (by omega) ⟨hm, ?_⟩
          show cw_C _ _ [vi 47] (z_m m g0 b1) _
          refine M_sign (by decide) rfl ⟨hm, ?_⟩
          refine And.intro (fun (c26 : c i0 = 147) => ?_) (fun (c26 : ¬ (c i0 = 147)) => ?_)
          · show cw_C _ _ [vr m_, vi g0] (z_m m g0 b1) _
            refine M_codeAtZ hm0 hZ (i0 := i0) (by omega) (by omega) (by omega) ⟨hm, ?_⟩
            refine And.intro (show -2147483648 ≤ g0 + 1 ∧ g0 + 1 < 2147483648 by omega) ?_
            have hm27 : la_ok (cw_put (z_m m g0 b1) m_ 22 (g0 + 1)) := la_put hm (by decide) (Or.inl rfl)
            show cw_C _ _ [vr m_, vi lv] (cw_put (z_m m g0 b1) m_ 22 (g0 + 1)) _
            rw [z_m_fgp]
            have hm28 : la_ok (z_m m (g0 + 1) b1) := z_m_ok hm0
            refine ih.1 _ m dp (i0 + 1) l acc _ _ _ (g0 + 1) lv b1 _ hm0 hZ (by omega) (by omega) (by omega) (by omega) (by omega) (by omega) (by omega) (by omega) (by omega) (by omega) (by omega) e2 (fun (m29 : cw_M) (g29 v29 b29 : Int) (hm29 : la_ok m29) (hz29 : Z_r o m m29) (hg29 : g29 = B + i2) (hW29 : W_s lv b1 (D2 E) v29 b29) => ⟨(z_m_ok hm29), ?_⟩)
            have hr29 : Z_r o m m29 := Z_rt Z_rr hz29
            have hZ29 : Z_h m29 c v o n B E := Z_hr hZ hr29
            have wb29 := hW29.1
            have wr29 := hW29.2.1
            obtain ⟨i29, hi29⟩ : ∃ z, z = i2 := ⟨_, rfl⟩
            show cw_C _ _ [vi 42] (z_m m29 g29 b29) _
            refine M_sign (by decide) rfl ⟨(z_m_ok hm29), ?_⟩
            refine br_f (show ¬ (c i0 = 142) by omega) ?_
            refine And.intro (fun (c30 : cw_lc v29 0 ≠ 0) => ?_) (fun (c30 : ¬ (cw_lc v29 0 ≠ 0)) => ?_)
            · have z0 := c30
              rw [ne_eq, lc_eq] at z0
              show cw_C _ _ [vi 42] (z_m m29 g29 b29) _
              refine M_sign (by decide) rfl ⟨(z_m_ok hm29), ?_⟩
              refine br_t (show c i0 ≠ 142 by omega) ?_
              show cw_C _ _ [vi 47] (z_m m29 g29 b29) _
              refine M_sign (by decide) rfl ⟨(z_m_ok hm29), ?_⟩
              refine br_f (show ¬ (c i0 ≠ 147) by omega) ?_
              refine And.intro (show v29 ≠ 0 ∧ -9223372036854775808 ≤ Int.tdiv r0 v29 ∧ Int.tdiv r0 v29 < 9223372036854775808 by exact ⟨by omega, e_tdv (by omega)⟩) ?_
              show cw_C _ _ [vr m_, vl (Int.tdiv r0 v29), vi lv] (z_m m29 g29 b29) _
              refine M_boundedZ hm29 (by omega) (by omega) (fun (v31 b31 : Int) (hb31 : b_d lv (Int.tdiv r0 v29) b29 v31 b31) => ⟨(z_m_ok hm29), ?_⟩)
              show cw_R _ _ 6 [vr m_, vi lv, vl v31, none, vi (c i0), vl v29, none] [] (z_m m29 g29 b31) _
              have hW2 : W_s lv b0 (p_bin (c i0) acc D2 E) v31 b31 := by
                refine W_op (w' := v29) (b1' := b29) hlv hb (by omega) hW hW29 (by omega) ?_ hb31
                unfold o_v
                rw [if_neg (by omega), if_neg (by omega), if_neg (by omega), if_pos (by omega)]
              exact ih.2.2.1 _ m29 dp i2 l2 _ _ _ _ g29 lv b0 v31 b31 _ _ _ Q hm29 hZ29 (by omega) (by omega) (by omega) (by omega) (by omega) (by omega) (by omega) (by omega) (by omega) (by omega) (by omega) hW2 e3 (fun mz gz rz bz a1 a2 a3 a4 => hQ mz gz rz bz a1 (Z_rt hr29 a2) a3 a4)
            · have z0 := c30
              rw [ne_eq, Classical.not_not, lc_eq] at z0
              refine And.intro (fun (c32 : b29 ≠ 0) => ?_) (fun (c32 : ¬ (b29 ≠ 0)) => ?_)
              · refine And.intro (Or.inr rfl) ?_
                have hm33 : la_ok (cw_put (z_m m29 g29 b29) m_ 24 1) := la_put (z_m_ok hm29) (by decide) (Or.inl rfl)
                show cw_C _ _ [vi 42] (cw_put (z_m m29 g29 b29) m_ 24 1) _
                rw [z_m_fbk]
                have hm34 : la_ok (z_m m29 g29 1) := z_m_ok hm29
                refine M_sign (by decide) rfl ⟨hm34, ?_⟩
                refine br_t (show c i0 ≠ 142 by omega) ?_
                show cw_C _ _ [vi 47] (z_m m29 g29 1) _
                refine M_sign (by decide) rfl ⟨hm34, ?_⟩
                refine br_f (show ¬ (c i0 ≠ 147) by omega) ?_
                refine And.intro (show (1 : Int) ≠ 0 ∧ -9223372036854775808 ≤ Int.tdiv r0 1 ∧ Int.tdiv r0 1 < 9223372036854775808 by exact ⟨by omega, e_tdv (by omega)⟩) ?_
                show cw_C _ _ [vr m_, vl (Int.tdiv r0 1), vi lv] (z_m m29 g29 1) _
                refine M_boundedZ hm29 (by omega) (by omega) (fun (v35 b35 : Int) (hb35 : b_d lv (Int.tdiv r0 1) 1 v35 b35) => ⟨(z_m_ok hm29), ?_⟩)
                show cw_R _ _ 6 [vr m_, vi lv, vl v35, none, vi (c i0), vl 1, none] [] (z_m m29 g29 b35) _
                have hW2 : W_s lv b0 (p_bin (c i0) acc D2 E) v35 b35 := by
                  refine W_op (w' := 1) (b1' := 1) hlv hb (by omega) hW hW29 (by omega) ?_ hb35
                  unfold o_v
                  rw [if_neg (by omega), if_neg (by omega), if_neg (by omega), if_pos (by omega)]
                exact ih.2.2.1 _ m29 dp i2 l2 _ _ _ _ g29 lv b0 v35 b35 _ _ _ Q hm29 hZ29 (by omega) (by omega) (by omega) (by omega) (by omega) (by omega) (by omega) (by omega) (by omega) (by omega) (by omega) hW2 e3 (fun mz gz rz bz a1 a2 a3 a4 => hQ mz gz rz bz a1 (Z_rt hr29 a2) a3 a4)
              · refine And.intro (fun (c36 : lv = 0) => ?_) (fun (c36 : ¬ (lv = 0)) => ?_)
                · refine And.intro (Or.inl rfl) ?_
                  have hm37 : la_ok (cw_put (z_m m29 g29 b29) m_ 24 0) := la_put (z_m_ok hm29) (by decide) (Or.inl rfl)
                  show cw_C _ _ [vi 42] (cw_put (z_m m29 g29 b29) m_ 24 0) _
                  rw [z_m_fbk]
                  have hm38 : la_ok (z_m m29 g29 0) := z_m_ok hm29
                  refine M_sign (by decide) rfl ⟨hm38, ?_⟩
                  refine br_t (show c i0 ≠ 142 by omega) ?_
                  show cw_C _ _ [vi 47] (z_m m29 g29 0) _
                  refine M_sign (by decide) rfl ⟨hm38, ?_⟩
                  refine br_f (show ¬ (c i0 ≠ 147) by omega) ?_
                  refine And.intro (show (1 : Int) ≠ 0 ∧ -9223372036854775808 ≤ Int.tdiv r0 1 ∧ Int.tdiv r0 1 < 9223372036854775808 by exact ⟨by omega, e_tdv (by omega)⟩) ?_
                  show cw_C _ _ [vr m_, vl (Int.tdiv r0 1), vi lv] (z_m m29 g29 0) _
                  refine M_boundedZ hm29 (by omega) (by omega) (fun (v39 b39 : Int) (hb39 : b_d lv (Int.tdiv r0 1) 0 v39 b39) => ⟨(z_m_ok hm29), ?_⟩)
                  show cw_R _ _ 6 [vr m_, vi lv, vl v39, none, vi (c i0), vl 1, none] [] (z_m m29 g29 b39) _
                  have hW2 : W_s lv b0 (p_bin (c i0) acc D2 E) v39 b39 := by
                    refine W_op (w' := 1) (b1' := 0) hlv hb (by omega) hW hW29 (by omega) ?_ hb39
                    unfold o_v
                    rw [if_neg (by omega), if_neg (by omega), if_neg (by omega), if_pos (by omega)]
                  exact ih.2.2.1 _ m29 dp i2 l2 _ _ _ _ g29 lv b0 v39 b39 _ _ _ Q hm29 hZ29 (by omega) (by omega) (by omega) (by omega) (by omega) (by omega) (by omega) (by omega) (by omega) (by omega) (by omega) hW2 e3 (fun mz gz rz bz a1 a2 a3 a4 => hQ mz gz rz bz a1 (Z_rt hr29 a2) a3 a4)
                · refine And.intro (Or.inr rfl) ?_
                  have hm40 : la_ok (cw_put (z_m m29 g29 b29) m_ 24 1) := la_put (z_m_ok hm29) (by decide) (Or.inl rfl)
                  show cw_C _ _ [vi 42] (cw_put (z_m m29 g29 b29) m_ 24 1) _
                  rw [z_m_fbk]
                  have hm41 : la_ok (z_m m29 g29 1) := z_m_ok hm29
                  refine M_sign (by decide) rfl ⟨hm41, ?_⟩
                  refine br_t (show c i0 ≠ 142 by omega) ?_
                  show cw_C _ _ [vi 47] (z_m m29 g29 1) _
                  refine M_sign (by decide) rfl ⟨hm41, ?_⟩
                  refine br_f (show ¬ (c i0 ≠ 147) by omega) ?_
                  refine And.intro (show (1 : Int) ≠ 0 ∧ -9223372036854775808 ≤ Int.tdiv r0 1 ∧ Int.tdiv r0 1 < 9223372036854775808 by exact ⟨by omega, e_tdv (by omega)⟩) ?_
                  show cw_C _ _ [vr m_, vl (Int.tdiv r0 1), vi lv] (z_m m29 g29 1) _
                  refine M_boundedZ hm29 (by omega) (by omega) (fun (v42 b42 : Int) (hb42 : b_d lv (Int.tdiv r0 1) 1 v42 b42) => ⟨(z_m_ok hm29), ?_⟩)
                  show cw_R _ _ 6 [vr m_, vi lv, vl v42, none, vi (c i0), vl 1, none] [] (z_m m29 g29 b42) _
                  have hW2 : W_s lv b0 (p_bin (c i0) acc D2 E) v42 b42 := by
                    refine W_op (w' := 1) (b1' := 1) hlv hb (by omega) hW hW29 (by omega) ?_ hb42
                    unfold o_v
                    rw [if_neg (by omega), if_neg (by omega), if_neg (by omega), if_pos (by omega)]
                  exact ih.2.2.1 _ m29 dp i2 l2 _ _ _ _ g29 lv b0 v42 b42 _ _ _ Q hm29 hZ29 (by omega) (by omega) (by omega) (by omega) (by omega) (by omega) (by omega) (by omega) (by omega) (by omega) (by omega) hW2 e3 (fun mz gz rz bz a1 a2 a3 a4 => hQ mz gz rz bz a1 (Z_rt hr29 a2) a3 a4)
          · show cw_C _ _ [vr m_, vi g0] (z_m m g0 b1) _
            refine M_codeAtZ hm0 hZ (i0 := i0) (by omega) (by omega) (by omega) ⟨hm, ?_⟩
            show cw_C _ _ [vi 37] (z_m m g0 b1) _
            refine M_sign (by decide) rfl ⟨hm, ?_⟩
            refine br_f (show ¬ (c i0 ≠ 137) by omega) ?_
            show cw_C _ _ [vr m_, vi g0] (z_m m g0 b1) _
            refine M_codeAtZ hm0 hZ (i0 := i0) (by omega) (by omega) (by omega) ⟨hm, ?_⟩
            refine And.intro (show -2147483648 ≤ g0 + 1 ∧ g0 + 1 < 2147483648 by omega) ?_
            have hm43 : la_ok (cw_put (z_m m g0 b1) m_ 22 (g0 + 1)) := la_put hm (by decide) (Or.inl rfl)
            show cw_C _ _ [vr m_, vi lv] (cw_put (z_m m g0 b1) m_ 22 (g0 + 1)) _
            rw [z_m_fgp]
            have hm44 : la_ok (z_m m (g0 + 1) b1) := z_m_ok hm0
            refine ih.1 _ m dp (i0 + 1) l acc _ _ _ (g0 + 1) lv b1 _ hm0 hZ (by omega) (by omega) (by omega) (by omega) (by omega) (by omega) (by omega) (by omega) (by omega) (by omega) (by omega) e2 (fun (m45 : cw_M) (g45 v45 b45 : Int) (hm45 : la_ok m45) (hz45 : Z_r o m m45) (hg45 : g45 = B + i2) (hW45 : W_s lv b1 (D2 E) v45 b45) => ⟨(z_m_ok hm45), ?_⟩)
            have hr45 : Z_r o m m45 := Z_rt Z_rr hz45
            have hZ45 : Z_h m45 c v o n B E := Z_hr hZ hr45
            have wb45 := hW45.1
            have wr45 := hW45.2.1
            obtain ⟨i45, hi45⟩ : ∃ z, z = i2 := ⟨_, rfl⟩
            show cw_C _ _ [vi 42] (z_m m45 g45 b45) _
            refine M_sign (by decide) rfl ⟨(z_m_ok hm45), ?_⟩
            refine br_f (show ¬ (c i0 = 142) by omega) ?_
            refine And.intro (fun (c46 : cw_lc v45 0 ≠ 0) => ?_) (fun (c46 : ¬ (cw_lc v45 0 ≠ 0)) => ?_)
            · have z0 := c46
              rw [ne_eq, lc_eq] at z0
              show cw_C _ _ [vi 42] (z_m m45 g45 b45) _
              refine M_sign (by decide) rfl ⟨(z_m_ok hm45), ?_⟩
              refine br_t (show c i0 ≠ 142 by omega) ?_
              show cw_C _ _ [vi 47] (z_m m45 g45 b45) _
              refine M_sign (by decide) rfl ⟨(z_m_ok hm45), ?_⟩
              refine br_t (show c i0 ≠ 147 by omega) ?_
              refine And.intro (show v45 ≠ 0 by omega) ?_
              show cw_C _ _ [vr m_, vl (Int.tmod r0 v45), vi lv] (z_m m45 g45 b45) _
              refine M_boundedZ hm45 (by omega) (by omega) (fun (v47 b47 : Int) (hb47 : b_d lv (Int.tmod r0 v45) b45 v47 b47) => ⟨(z_m_ok hm45), ?_⟩)
              show cw_R _ _ 6 [vr m_, vi lv, vl v47, none, vi (c i0), vl v45, none] [] (z_m m45 g45 b47) _
              have hW2 : W_s lv b0 (p_bin (c i0) acc D2 E) v47 b47 := by
                refine W_op (w' := v45) (b1' := b45) hlv hb (by omega) hW hW45 (by omega) ?_ hb47
                unfold o_v
                rw [if_neg (by omega), if_neg (by omega), if_neg (by omega), if_neg (by omega)]
              exact ih.2.2.1 _ m45 dp i2 l2 _ _ _ _ g45 lv b0 v47 b47 _ _ _ Q hm45 hZ45 (by omega) (by omega) (by omega) (by omega) (by omega) (by omega) (by omega) (by omega) (by omega) (by omega) (by omega) hW2 e3 (fun mz gz rz bz a1 a2 a3 a4 => hQ mz gz rz bz a1 (Z_rt hr45 a2) a3 a4)
            · have z0 := c46
              rw [ne_eq, Classical.not_not, lc_eq] at z0
              refine And.intro (fun (c48 : b45 ≠ 0) => ?_) (fun (c48 : ¬ (b45 ≠ 0)) => ?_)
              · refine And.intro (Or.inr rfl) ?_
                have hm49 : la_ok (cw_put (z_m m45 g45 b45) m_ 24 1) := la_put (z_m_ok hm45) (by decide) (Or.inl rfl)
                show cw_C _ _ [vi 42] (cw_put (z_m m45 g45 b45) m_ 24 1) _
                rw [z_m_fbk]
                have hm50 : la_ok (z_m m45 g45 1) := z_m_ok hm45
                refine M_sign (by decide) rfl ⟨hm50, ?_⟩
                refine br_t (show c i0 ≠ 142 by omega) ?_
                show cw_C _ _ [vi 47] (z_m m45 g45 1) _
                refine M_sign (by decide) rfl ⟨hm50, ?_⟩
                refine br_t (show c i0 ≠ 147 by omega) ?_
                refine And.intro (show (1 : Int) ≠ 0 by omega) ?_
                show cw_C _ _ [vr m_, vl (Int.tmod r0 1), vi lv] (z_m m45 g45 1) _
                refine M_boundedZ hm45 (by omega) (by omega) (fun (v51 b51 : Int) (hb51 : b_d lv (Int.tmod r0 1) 1 v51 b51) => ⟨(z_m_ok hm45), ?_⟩)
                show cw_R _ _ 6 [vr m_, vi lv, vl v51, none, vi (c i0), vl 1, none] [] (z_m m45 g45 b51) _
                have hW2 : W_s lv b0 (p_bin (c i0) acc D2 E) v51 b51 := by
                  refine W_op (w' := 1) (b1' := 1) hlv hb (by omega) hW hW45 (by omega) ?_ hb51
                  unfold o_v
                  rw [if_neg (by omega), if_neg (by omega), if_neg (by omega), if_neg (by omega)]
                exact ih.2.2.1 _ m45 dp i2 l2 _ _ _ _ g45 lv b0 v51 b51 _ _ _ Q hm45 hZ45 (by omega) (by omega) (by omega) (by omega) (by omega) (by omega) (by omega) (by omega) (by omega) (by omega) (by omega) hW2 e3 (fun mz gz rz bz a1 a2 a3 a4 => hQ mz gz rz bz a1 (Z_rt hr45 a2) a3 a4)
              · refine And.intro (fun (c52 : lv = 0) => ?_) (fun (c52 : ¬ (lv = 0)) => ?_)
                · refine And.intro (Or.inl rfl) ?_
                  have hm53 : la_ok (cw_put (z_m m45 g45 b45) m_ 24 0) := la_put (z_m_ok hm45) (by decide) (Or.inl rfl)
                  show cw_C _ _ [vi 42] (cw_put (z_m m45 g45 b45) m_ 24 0) _
                  rw [z_m_fbk]
                  have hm54 : la_ok (z_m m45 g45 0) := z_m_ok hm45
                  refine M_sign (by decide) rfl ⟨hm54, ?_⟩
                  refine br_t (show c i0 ≠ 142 by omega) ?_
                  show cw_C _ _ [vi 47] (z_m m45 g45 0) _
                  refine M_sign (by decide) rfl ⟨hm54, ?_⟩
                  refine br_t (show c i0 ≠ 147 by omega) ?_
                  refine And.intro (show (1 : Int) ≠ 0 by omega) ?_
                  show cw_C _ _ [vr m_, vl (Int.tmod r0 1), vi lv] (z_m m45 g45 0) _
                  refine M_boundedZ hm45 (by omega) (by omega) (fun (v55 b55 : Int) (hb55 : b_d lv (Int.tmod r0 1) 0 v55 b55) => ⟨(z_m_ok hm45), ?_⟩)
                  show cw_R _ _ 6 [vr m_, vi lv, vl v55, none, vi (c i0), vl 1, none] [] (z_m m45 g45 b55) _
                  have hW2 : W_s lv b0 (p_bin (c i0) acc D2 E) v55 b55 := by
                    refine W_op (w' := 1) (b1' := 0) hlv hb (by omega) hW hW45 (by omega) ?_ hb55
                    unfold o_v
                    rw [if_neg (by omega), if_neg (by omega), if_neg (by omega), if_neg (by omega)]
                  exact ih.2.2.1 _ m45 dp i2 l2 _ _ _ _ g45 lv b0 v55 b55 _ _ _ Q hm45 hZ45 (by omega) (by omega) (by omega) (by omega) (by omega) (by omega) (by omega) (by omega) (by omega) (by omega) (by omega) hW2 e3 (fun mz gz rz bz a1 a2 a3 a4 => hQ mz gz rz bz a1 (Z_rt hr45 a2) a3 a4)
                · refine And.intro (Or.inr rfl) ?_
                  have hm56 : la_ok (cw_put (z_m m45 g45 b45) m_ 24 1) := la_put (z_m_ok hm45) (by decide) (Or.inl rfl)
                  show cw_C _ _ [vi 42] (cw_put (z_m m45 g45 b45) m_ 24 1) _
                  rw [z_m_fbk]
                  have hm57 : la_ok (z_m m45 g45 1) := z_m_ok hm45
                  refine M_sign (by decide) rfl ⟨hm57, ?_⟩
                  refine br_t (show c i0 ≠ 142 by omega) ?_
                  show cw_C _ _ [vi 47] (z_m m45 g45 1) _
                  refine M_sign (by decide) rfl ⟨hm57, ?_⟩
                  refine br_t (show c i0 ≠ 147 by omega) ?_
                  refine And.intro (show (1 : Int) ≠ 0 by omega) ?_
                  show cw_C _ _ [vr m_, vl (Int.tmod r0 1), vi lv] (z_m m45 g45 1) _
                  refine M_boundedZ hm45 (by omega) (by omega) (fun (v58 b58 : Int) (hb58 : b_d lv (Int.tmod r0 1) 1 v58 b58) => ⟨(z_m_ok hm45), ?_⟩)
                  show cw_R _ _ 6 [vr m_, vi lv, vl v58, none, vi (c i0), vl 1, none] [] (z_m m45 g45 b58) _
                  have hW2 : W_s lv b0 (p_bin (c i0) acc D2 E) v58 b58 := by
                    refine W_op (w' := 1) (b1' := 1) hlv hb (by omega) hW hW45 (by omega) ?_ hb58
                    unfold o_v
                    rw [if_neg (by omega), if_neg (by omega), if_neg (by omega), if_neg (by omega)]
                  exact ih.2.2.1 _ m45 dp i2 l2 _ _ _ _ g45 lv b0 v58 b58 _ _ _ Q hm45 hZ45 (by omega) (by omega) (by omega) (by omega) (by omega) (by omega) (by omega) (by omega) (by omega) (by omega) (by omega) hW2 e3 (fun mz gz rz bz a1 a2 a3 a4 => hQ mz gz rz bz a1 (Z_rt hr45 a2) a3 a4)
      · refine la_go_R hm 26 [6] ?_
        show cw_C _ _ [vr m_, vi g0] (z_m m g0 b1) _
        refine M_codeAtZ hm0 hZ (i0 := i0) (by omega) (by omega) (by omega) ⟨hm, ?_⟩
        show cw_C _ _ [vi 42] (z_m m g0 b1) _
        refine M_sign (by decide) rfl ⟨hm, ?_⟩
        refine br_f (show ¬ (c i0 = 142) by omega) ?_
        show cw_C _ _ [vr m_, vi g0] (z_m m g0 b1) _
        refine M_codeAtZ hm0 hZ (i0 := i0) (by omega) (by omega) (by omega) ⟨hm, ?_⟩
        show cw_C _ _ [vi 47] (z_m m g0 b1) _
        refine M_sign (by decide) rfl ⟨hm, ?_⟩
        refine br_f (show ¬ (c i0 = 147) by omega) ?_
        show cw_C _ _ [vr m_, vi g0] (z_m m g0 b1) _
        refine M_codeAtZ hm0 hZ (i0 := i0) (by omega) (by omega) (by omega) ⟨hm, ?_⟩
        show cw_C _ _ [vi 37] (z_m m g0 b1) _
        refine M_sign (by decide) rfl ⟨hm, ?_⟩
        refine br_t (show c i0 ≠ 137 by omega) ?_
        show Q (some (vl r0)) (z_m m g0 b1)
        obtain ⟨a1, a2, a3⟩ := p3
        exact hQ m _ _ _ hm0 Z_rr (by omega) (by rw [a3]; exact hW)
    · intro d0 m dp i0 l acc i1 l1 D g0 lv b0 Q hm0 hZ h0 h1 hl0 hl1 hd0 hd8 hlv hb hg hd hf hp hQ
      obtain ⟨d, rfl⟩ : ∃ k, d0 = k + 13 := ⟨d0 - 13, by omega⟩
      have yn := hZ.1
      have hm : la_ok (z_m m g0 b0) := z_m_ok hm0
      have hlt : ∀ z, c z ≠ 0 → z ≤ n → z < n := fun z q z1 => by
        by_cases e : z = n
        · rw [e, hZ.2.1] at q; exact absurd rfl q
        · omega
      obtain ⟨i2, l2, D2, e2, e3⟩ := p_s3i hp
      have N2 := p_Nok ((p_sN (c := c) (v := v) (o := o) hZ.2.1 f (dp := dp) (i := i0) (l := l) (acc := acc) (by omega) (by omega) (by omega) (by omega)).2.1 (by omega)) e2
      refine la_go_C hm 7 [6] ?_
      show cw_C _ _ [vr m_, vi lv] (z_m m g0 b0) _
      refine ih.2.1 _ m dp i0 l acc _ _ _ g0 lv b0 _ hm0 hZ (by omega) (by omega) (by omega) (by omega) (by omega) (by omega) (by omega) (by omega) (by omega) (by omega) (by omega) e2 (fun (m21 : cw_M) (g21 v21 b21 : Int) (hm21 : la_ok m21) (hz21 : Z_r o m m21) (hg21 : g21 = B + i2) (hW21 : W_s lv b0 (D2 E) v21 b21) => ⟨(z_m_ok hm21), ?_⟩)
      have hr21 : Z_r o m m21 := Z_rt Z_rr hz21
      have hZ21 : Z_h m21 c v o n B E := Z_hr hZ hr21
      have wb21 := hW21.1
      have wr21 := hW21.2.1
      obtain ⟨i21, hi21⟩ : ∃ z, z = i2 := ⟨_, rfl⟩
      show cw_R _ _ 6 [vr m_, vi lv, vl v21, none, none, none, none] [] (z_m m21 g21 b21) _
      exact ih.2.2.2.2 _ m21 dp i2 l2 D2 _ _ _ g21 lv b0 v21 b21 _ _ _ Q hm21 hZ21 (by omega) (by omega) (by omega) (by omega) (by omega) (by omega) (by omega) (by omega) (by omega) (by omega) (by omega) hW21 e3 (fun mz gz rz bz a1 a2 a3 a4 => hQ mz gz rz bz a1 (Z_rt hr21 a2) a3 a4)
    · intro d0 m dp i0 l acc i1 l1 D g0 lv b0 r0 b1 w4 w5 w6 Q hm0 hZ h0 h1 hl0 hl1 hd0 hd8 hlv hb hg hd hf hW hp hQ
      obtain ⟨d, rfl⟩ : ∃ k, d0 = k + 13 := ⟨d0 - 13, by omega⟩
      have yn := hZ.1
      have hm : la_ok (z_m m g0 b1) := z_m_ok hm0
      have hlt : ∀ z, c z ≠ 0 → z ≤ n → z < n := fun z q z1 => by
        by_cases e : z = n
        · rw [e, hZ.2.1] at q; exact absurd rfl q
        · omega
      have wb1 := hW.1
      have wr0 := hW.2.1
      rcases p_s4i hp with ⟨p1, i2, l2, D2, e2, e3⟩ | ⟨p1, p3⟩
      · have hi0 := hlt i0 (by omega) h1
        have N2 := p_Nok ((p_sN (c := c) (v := v) (o := o) hZ.2.1 f (dp := dp) (i := i0 + 1) (l := l) (acc := acc) (by omega) (by omega) (by omega) (by omega)).2.1 (by omega)) e2
        refine la_go_R hm 46 [6] ?_
        show cw_C _ _ [vr m_, vi g0] (z_m m g0 b1) _
        refine M_codeAtZ hm0 hZ (i0 := i0) (by omega) (by omega) (by omega) ⟨hm, ?_⟩
        show cw_C _ _ [vi 43] (z_m m g0 b1) _
        refine M_sign (by decide) rfl ⟨hm, ?_⟩
        refine And.intro (fun (c21 : c i0 = 143) => ?_) (fun (c21 : ¬ (c i0 = 143)) => ?_)
        · show cw_C _ _ [vr m_, vi g0] (z_m m g0 b1) _
          refine M_codeAtZ hm0 hZ (i0 := i0) (by omega) (by omega) (by omega) ⟨hm, ?_⟩
          show cw_C _ _ [vi 43] (z_m m g0 b1) _
          refine M_sign (by decide) rfl ⟨hm, ?_⟩
          refine br_f (show ¬ (c i0 ≠ 143) by omega) ?_
          refine And.intro (show -2147483648 ≤ g0 + 1 ∧ g0 + 1 < 2147483648 by omega) ?_
          have hm22 : la_ok (cw_put (z_m m g0 b1) m_ 22 (g0 + 1)) := la_put hm (by decide) (Or.inl rfl)
          show cw_C _ _ [vr m_, vi lv] (cw_put (z_m m g0 b1) m_ 22 (g0 + 1)) _
          rw [z_m_fgp]
          have hm23 : la_ok (z_m m (g0 + 1) b1) := z_m_ok hm0
          refine ih.2.1 _ m dp (i0 + 1) l acc _ _ _ (g0 + 1) lv b1 _ hm0 hZ (by omega) (by omega) (by omega) (by omega) (by omega) (by omega) (by omega) (by omega) (by omega) (by omega) (by omega) e2 (fun (m24 : cw_M) (g24 v24 b24 : Int) (hm24 : la_ok m24) (hz24 : Z_r o m m24) (hg24 : g24 = B + i2) (hW24 : W_s lv b1 (D2 E) v24 b24) => ⟨(z_m_ok hm24), ?_⟩)
          have hr24 : Z_r o m m24 := Z_rt Z_rr hz24
          have hZ24 : Z_h m24 c v o n B E := Z_hr hZ hr24
          have wb24 := hW24.1
          have wr24 := hW24.2.1
          obtain ⟨i24, hi24⟩ : ∃ z, z = i2 := ⟨_, rfl⟩
          refine br_f (show ¬ ((1 : Int) = 0) by decide) ?_
          refine And.intro (show -9223372036854775808 ≤ r0 + v24 ∧ r0 + v24 < 9223372036854775808 by omega) ?_
          show cw_C _ _ [vr m_, vl (r0 + v24), vi lv] (z_m m24 g24 b24) _
          refine M_boundedZ hm24 (by omega) (by omega) (fun (v25 b25 : Int) (hb25 : b_d lv (r0 + v24) b24 v25 b25) => ⟨(z_m_ok hm24), ?_⟩)
          show cw_R _ _ 6 [vr m_, vi lv, vl v25, none, vi 1, vl v24, none] [] (z_m m24 g24 b25) _
          have hW2 : W_s lv b0 (p_bin (c i0) acc D2 E) v25 b25 := by
            refine W_op (w' := v24) (b1' := b24) hlv hb (by omega) hW hW24 (by omega) ?_ hb25
            unfold o_v
            rw [if_pos (by omega)]
          exact ih.2.2.2.2 _ m24 dp i2 l2 _ _ _ _ g24 lv b0 v25 b25 _ _ _ Q hm24 hZ24 (by omega) (by omega) (by omega) (by omega) (by omega) (by omega) (by omega) (by omega) (by omega) (by omega) (by omega) hW2 e3 (fun mz gz rz bz a1 a2 a3 a4 => hQ mz gz rz bz a1 (Z_rt hr24 a2) a3 a4)
        · show cw_C _ _ [vr m_, vi g0] (z_m m g0 b1) _
          refine M_codeAtZ hm0 hZ (i0 := i0) (by omega) (by omega) (by omega) ⟨hm, ?_⟩
          show cw_C _ _ [vi 45] (z_m m g0 b1) _
          refine M_sign (by decide) rfl ⟨hm, ?_⟩
          refine br_f (show ¬ (c i0 ≠ 145) by omega) ?_
          show cw_C _ _ [vr m_, vi g0] (z_m m g0 b1) _
          refine M_codeAtZ hm0 hZ (i0 := i0) (by omega) (by omega) (by omega) ⟨hm, ?_⟩
          show cw_C _ _ [vi 43] (z_m m g0 b1) _
          refine M_sign (by decide) rfl ⟨hm, ?_⟩
          refine br_t (show c i0 ≠ 143 by omega) ?_
          refine And.intro (show -2147483648 ≤ g0 + 1 ∧ g0 + 1 < 2147483648 by omega) ?_
          have hm26 : la_ok (cw_put (z_m m g0 b1) m_ 22 (g0 + 1)) := la_put hm (by decide) (Or.inl rfl)
          show cw_C _ _ [vr m_, vi lv] (cw_put (z_m m g0 b1) m_ 22 (g0 + 1)) _
          rw [z_m_fgp]
          have hm27 : la_ok (z_m m (g0 + 1) b1) := z_m_ok hm0
          refine ih.2.1 _ m dp (i0 + 1) l acc _ _ _ (g0 + 1) lv b1 _ hm0 hZ (by omega) (by omega) (by omega) (by omega) (by omega) (by omega) (by omega) (by omega) (by omega) (by omega) (by omega) e2 (fun (m28 : cw_M) (g28 v28 b28 : Int) (hm28 : la_ok m28) (hz28 : Z_r o m m28) (hg28 : g28 = B + i2) (hW28 : W_s lv b1 (D2 E) v28 b28) => ⟨(z_m_ok hm28), ?_⟩)
          have hr28 : Z_r o m m28 := Z_rt Z_rr hz28
          have hZ28 : Z_h m28 c v o n B E := Z_hr hZ hr28
          have wb28 := hW28.1
          have wr28 := hW28.2.1
          obtain ⟨i28, hi28⟩ : ∃ z, z = i2 := ⟨_, rfl⟩
          refine br_t (show (0 : Int) = 0 by decide) ?_
          refine And.intro (show -9223372036854775808 ≤ r0 - v28 ∧ r0 - v28 < 9223372036854775808 by omega) ?_
          show cw_C _ _ [vr m_, vl (r0 - v28), vi lv] (z_m m28 g28 b28) _
          refine M_boundedZ hm28 (by omega) (by omega) (fun (v29 b29 : Int) (hb29 : b_d lv (r0 - v28) b28 v29 b29) => ⟨(z_m_ok hm28), ?_⟩)
          show cw_R _ _ 6 [vr m_, vi lv, vl v29, none, vi 0, vl v28, none] [] (z_m m28 g28 b29) _
          have hW2 : W_s lv b0 (p_bin (c i0) acc D2 E) v29 b29 := by
            refine W_op (w' := v28) (b1' := b28) hlv hb (by omega) hW hW28 (by omega) ?_ hb29
            unfold o_v
            rw [if_neg (by omega), if_pos (by omega)]
          exact ih.2.2.2.2 _ m28 dp i2 l2 _ _ _ _ g28 lv b0 v29 b29 _ _ _ Q hm28 hZ28 (by omega) (by omega) (by omega) (by omega) (by omega) (by omega) (by omega) (by omega) (by omega) (by omega) (by omega) hW2 e3 (fun mz gz rz bz a1 a2 a3 a4 => hQ mz gz rz bz a1 (Z_rt hr28 a2) a3 a4)
      · refine la_go_R hm 19 [6] ?_
        show cw_C _ _ [vr m_, vi g0] (z_m m g0 b1) _
        refine M_codeAtZ hm0 hZ (i0 := i0) (by omega) (by omega) (by omega) ⟨hm, ?_⟩
        show cw_C _ _ [vi 43] (z_m m g0 b1) _
        refine M_sign (by decide) rfl ⟨hm, ?_⟩
        refine br_f (show ¬ (c i0 = 143) by omega) ?_
        show cw_C _ _ [vr m_, vi g0] (z_m m g0 b1) _
        refine M_codeAtZ hm0 hZ (i0 := i0) (by omega) (by omega) (by omega) ⟨hm, ?_⟩
        show cw_C _ _ [vi 45] (z_m m g0 b1) _
        refine M_sign (by decide) rfl ⟨hm, ?_⟩
        refine br_t (show c i0 ≠ 145 by omega) ?_
        show Q (some (vl r0)) (z_m m g0 b1)
        obtain ⟨a1, a2, a3⟩ := p3
        exact hQ m _ _ _ hm0 Z_rr (by omega) (by rw [a3]; exact hW)
