/-! Marks tried one after another, by the class (wip/whole/tools/m143.py). -/
/-- a tree is ruled out by marks -/
def sp_x (ab mk : Int → Int) (n part : Int) (b : Nat) : Prop := ∃ j k, (0 ≤ j ∧ j < n) ∧ (0 ≤ k ∧ k < n) ∧ mk j < mk k ∧ l_b (ab ((j * 6 + k) * 3 + part)) b = true
theorem F_outP {w part t : Int} {mk ab de : Int → Int} (hw : -1 ≤ w ∧ w ≤ 6) (hp : 0 ≤ part ∧ part < 3) (hF : F_k w (F_tr w) de ab) (ht : 0 ≤ t ∧ t < F_tr w) (h1 : 64 * part ≤ t ∧ t < 64 * part + 64) : sp_x ab mk w part (t % 64).toNat ↔ ¬ t_R mk w t := by
  unfold sp_x
  have tq := F_trr hw
  by_cases w0 : w = 0
  · constructor
    · rintro ⟨j, k, hj, -⟩; omega
    · intro q; exfalso; apply q; intro j j0 j1; omega
  rw [t_Rov (by omega) (by omega) (by omega)]
  constructor
  · rintro ⟨j, k, hj, hk, hm, hb⟩ q
    rw [hF.2 _ (by omega) (by omega) _ (by omega)] at hb
    have e1 : ((j * 6 + k) * 3 + part) / 3 % 6 = k := by omega
    have e2 : ((j * 6 + k) * 3 + part) / 18 = j := by omega
    have e3 : 64 * (((j * 6 + k) * 3 + part) % 3) + (((t % 64).toNat : Nat) : Int) = t := by omega
    rw [e1, e2, e3] at hb
    have := q k hk.1 hk.2 (by omega)
    rw [hb.2.2] at this
    omega
  · intro q
    obtain ⟨x, q⟩ := Classical.not_forall.mp q
    obtain ⟨x0, q⟩ := Classical.not_forall.mp q
    obtain ⟨x1, q⟩ := Classical.not_forall.mp q
    obtain ⟨x2, q⟩ := Classical.not_forall.mp q
    have r4 : 0 ≤ t_ov w t x ∧ t_ov w t x < w := by
      by_cases z : x = 0 + t_top w t
      · exfalso; apply x2; unfold t_ov; rw [z, t_q_top]
      · have := (t_q_in 6 (a := 0) (n := w) (k := t) (dp := 0) (ov := -1) (x := x) (by omega) (by omega) (by omega) (by omega)).2.2.2 z
        unfold t_ov; omega
    refine ⟨t_ov w t x, x, r4, ⟨x0, x1⟩, by omega, ?_⟩
    rw [hF.2 _ (by omega) (by omega) _ (by omega)]
    have e1 : ((t_ov w t x * 6 + x) * 3 + part) / 3 % 6 = x := by omega
    have e2 : ((t_ov w t x * 6 + x) * 3 + part) / 18 = t_ov w t x := by omega
    have e3 : 64 * (((t_ov w t x * 6 + x) * 3 + part) % 3) + (((t % 64).toNat : Nat) : Int) = t := by omega
    rw [e1, e2, e3]
    exact ⟨by omega, x1, rfl⟩
def sp_o (ab mk : Int → Int) (n part x : Int) : Prop := ∀ b : Nat, b < 64 → (l_b x b = true ↔ sp_x ab mk n part b)
def sp_a (n : Int) (mk mk' : Int → Int) : Prop := ∀ j, 0 ≤ j → j < n → mk j = mk' j
def sp_g (le wr ab : Int → Int) (w : Int) (mk : Int → Int) : Prop := (∀ j, 0 ≤ j → j < w → le j ≤ mk j ∧ mk j ≤ 3) ∧ ∀ part, 0 ≤ part → part < 3 → ∀ b : Nat, b < 64 → l_b (wr part) b = true → sp_x ab mk w part b
def sp_T (le wr ab : Int → Int) (w n L : Int) (tr tr' : Int → Int) : Prop := sp_a n tr' tr ∧ sp_g le wr ab w tr' ∧ e_sm tr' le w.toNat - e_sm tr' le n.toNat = L ∧ ∀ mk, sp_a n mk tr → sp_g le wr ab w mk → e_sm mk le w.toNat - e_sm mk le n.toNat = L → nu_ tr' w.toNat ≤ nu_ mk w.toNat
def sp_F (le wr ab : Int → Int) (w n L : Int) (tr : Int → Int) : Prop := ∀ mk, sp_a n mk tr → sp_g le wr ab w mk → e_sm mk le w.toNat - e_sm mk le n.toNat = L → False
theorem sp_xc {ab mk tr : Int → Int} {n part : Int} {b : Nat} (h : sp_a n mk tr) (hx : sp_x ab mk n part b) : sp_x ab tr n part b := by
  obtain ⟨j, k, hj, hk, hm, hb⟩ := hx
  exact ⟨j, k, hj, hk, by rw [← h j hj.1 hj.2, ← h k hk.1 hk.2]; exact hm, hb⟩
theorem sp_as {n : Int} {mk mk' : Int → Int} (h : sp_a n mk mk') : sp_a n mk' mk := fun j a b => (h j a b).symm
theorem sp_at {n : Int} {m1 m2 m3 : Int → Int} (h : sp_a n m1 m2) (h2 : sp_a n m2 m3) : sp_a n m1 m3 := fun j a b => (h j a b).trans (h2 j a b)
theorem e_sms {mk le : Int → Int} {n : Int} (hn : 0 ≤ n) : e_sm mk le (n + 1).toNat = e_sm mk le n.toNat + (mk n - le n) := by
  rw [show (n + 1).toNat = n.toNat + 1 by omega]
  show e_sm mk le n.toNat + (mk ((n.toNat : Nat) : Int) - le ((n.toNat : Nat) : Int)) = _
  rw [show ((n.toNat : Nat) : Int) = n by omega]
theorem nu_s {mk : Int → Int} {n : Int} (hn : 0 ≤ n) : nu_ mk (n + 1).toNat = 4 * nu_ mk n.toNat + mk n := by
  rw [show (n + 1).toNat = n.toNat + 1 by omega]
  show 4 * nu_ mk n.toNat + mk ((n.toNat : Nat) : Int) = _
  rw [show ((n.toNat : Nat) : Int) = n by omega]
/-- what the marks behind can take -/
theorem e_rm {mk le : Int → Int} {w : Int} (h : ∀ j, 0 ≤ j → j < w → le j ≤ mk j ∧ mk j ≤ 3) {n : Int} (hn : 0 ≤ n) : ∀ f : Nat, n + f ≤ w → 0 ≤ e_sm mk le (n + f).toNat - e_sm mk le n.toNat ∧ e_sm mk le (n + f).toNat - e_sm mk le n.toNat ≤ e_sm (fun _ => 3) le (n + f).toNat - e_sm (fun _ => 3) le n.toNat
  | 0, _ => by rw [show (n + ((0 : Nat) : Int)) = n by omega]; omega
  | f + 1, hf => by
    have i := e_rm h hn f (by omega)
    have x := h (n + f) (by omega) (by omega)
    rw [show (n + ((f + 1 : Nat) : Int)) = n + (f : Int) + 1 by omega, e_sms (by omega), e_sms (by omega)]
    try dsimp only
    omega
theorem sp_w {le wr ab : Int → Int} {a : Int} {tr : Int → Int} {w part : Int} (hp : 0 ≤ part ∧ part < 3) (ha : sp_o ab tr w part a) : cw_lc (cw_land (wr part) (cw_lxor a (-1))) 0 = 0 ↔ ∀ b : Nat, b < 64 → l_b (wr part) b = true → sp_x ab tr w part b := by
  rw [lc_eq, l_sub]
  exact ⟨fun h b q z => (ha b q).mp (h b q z), fun h b q z => (ha b q).mpr (h b q z)⟩
theorem sp_T0 {le wr ab tr : Int → Int} {w : Int} (h : sp_g le wr ab w tr) : sp_T le wr ab w w 0 tr tr := ⟨fun _ _ _ => rfl, h, by omega, fun mk a _ _ => by rw [nu_c w.toNat (fun j x y => a j x (by omega))]; omega⟩
theorem sp_Fp {le wr ab tr : Int → Int} {w L part : Int} (hp : 0 ≤ part ∧ part < 3) (h : ¬ ∀ b : Nat, b < 64 → l_b (wr part) b = true → sp_x ab tr w part b) : sp_F le wr ab w w L tr := fun _ a g _ => h (fun b q z => sp_xc a (g.2 part hp.1 hp.2 b q z))
theorem sp_FL {le wr ab tr : Int → Int} {w L : Int} (h : L ≠ 0) : sp_F le wr ab w w L tr := fun _ _ _ e => h (by omega)
/-- one mark more, against those ahead of it -/
def sp_q (ab T : Int → Int) (n mk k part a x : Int) : Prop := ∀ b : Nat, b < 64 → (l_b x b = true ↔ l_b a b = true ∨ ∃ i, (0 ≤ i ∧ i < k) ∧ ((T i < mk ∧ l_b (ab ((i * 6 + n) * 3 + part)) b = true) ∨ (mk < T i ∧ l_b (ab ((n * 6 + i) * 3 + part)) b = true)))
theorem sp_q0 {ab T : Int → Int} {n mk part a : Int} : sp_q ab T n mk 0 part a a := fun b _ => ⟨Or.inl, fun h => h.elim id (fun ⟨i, q, _⟩ => by omega)⟩
theorem sp_qe {ab T : Int → Int} {n mk k part a x : Int} (h : sp_q ab T n mk k part a x) (e : T k = mk) : sp_q ab T n mk (k + 1) part a x := fun b hb => by
  rw [h b hb]
  constructor
  · rintro (z | ⟨i, q, z⟩)
    · exact Or.inl z
    · exact Or.inr ⟨i, ⟨q.1, by omega⟩, z⟩
  · rintro (z | ⟨i, q, z⟩)
    · exact Or.inl z
    · by_cases ik : i = k
      · rw [ik, e] at z
        rcases z with z | z <;> exact absurd z.1 (by omega)
      · exact Or.inr ⟨i, ⟨q.1, by omega⟩, z⟩
theorem sp_qs {ab T : Int → Int} {n mk k part a x v : Int} (hk : 0 ≤ k) (h : sp_q ab T n mk k part a x) (hv : ∀ b : Nat, b < 64 → (l_b v b = true ↔ ((T k < mk ∧ l_b (ab ((k * 6 + n) * 3 + part)) b = true) ∨ (mk < T k ∧ l_b (ab ((n * 6 + k) * 3 + part)) b = true)))) : sp_q ab T n mk (k + 1) part a (cw_lor x v) := fun b hb => by
  rw [l_or, Bool.or_eq_true, h b hb, hv b hb]
  constructor
  · rintro ((z | ⟨i, q, z⟩) | z)
    · exact Or.inl z
    · exact Or.inr ⟨i, ⟨q.1, by omega⟩, z⟩
    · exact Or.inr ⟨k, ⟨hk, by omega⟩, z⟩
  · rintro (z | ⟨i, q, z⟩)
    · exact Or.inl (Or.inl z)
    · by_cases ik : i = k
      · rw [ik] at z; exact Or.inr z
      · exact Or.inl (Or.inr ⟨i, ⟨q.1, by omega⟩, z⟩)
theorem sp_ql {ab T : Int → Int} {n mk k part a x : Int} (hk : 0 ≤ k) (h : sp_q ab T n mk k part a x) (c : T k < mk) : sp_q ab T n mk (k + 1) part a (cw_lor x (ab ((k * 6 + n) * 3 + part))) := sp_qs hk h (fun b _ => ⟨fun z => Or.inl ⟨c, z⟩, fun z => z.elim (fun q => q.2) (fun q => absurd q.1 (by omega))⟩)
theorem sp_qg {ab T : Int → Int} {n mk k part a x : Int} (hk : 0 ≤ k) (h : sp_q ab T n mk k part a x) (c : mk < T k) : sp_q ab T n mk (k + 1) part a (cw_lor x (ab ((n * 6 + k) * 3 + part))) := sp_qs hk h (fun b _ => ⟨fun z => Or.inr ⟨c, z⟩, fun z => z.elim (fun q => absurd q.1 (by omega)) (fun q => q.2)⟩)
theorem sp_qo {ab tr T : Int → Int} {n mk part a x : Int} (hn : 0 ≤ n) (ha : sp_o ab tr n part a) (hT : sp_a n T tr) (e : T n = mk) (h : sp_q ab T n mk n part a x) : sp_o ab T (n + 1) part x := fun b hb => by
  rw [h b hb, ha b hb]
  constructor
  · rintro (z | ⟨i, q, z⟩)
    · obtain ⟨j, k, hj, hk, hm, hb⟩ := sp_xc (sp_as hT) z
      exact ⟨j, k, ⟨hj.1, by omega⟩, ⟨hk.1, by omega⟩, hm, hb⟩
    · rcases z with z | z
      · exact ⟨i, n, ⟨q.1, by omega⟩, ⟨hn, by omega⟩, by rw [e]; exact z.1, z.2⟩
      · exact ⟨n, i, ⟨hn, by omega⟩, ⟨q.1, by omega⟩, by rw [e]; exact z.1, z.2⟩
  · rintro ⟨j, k, hj, hk, hm, hb⟩
    by_cases j1 : j = n
    · by_cases k1 : k = n
      · rw [j1, k1] at hm; omega
      · rw [j1] at hb
        exact Or.inr ⟨k, ⟨hk.1, by omega⟩, Or.inr ⟨by rw [← e, ← j1]; exact hm, hb⟩⟩
    · by_cases k1 : k = n
      · rw [k1] at hb
        exact Or.inr ⟨j, ⟨hj.1, by omega⟩, Or.inl ⟨by rw [← e, ← k1]; exact hm, hb⟩⟩
      · exact Or.inl (sp_xc hT ⟨j, k, ⟨hj.1, by omega⟩, ⟨hk.1, by omega⟩, hm, hb⟩)
theorem sp_Tn {le wr ab tr T tr' : Int → Int} {w n L mk : Int} (hle : ∀ j, 0 ≤ j → j < w → 0 ≤ le j) (hn : 0 ≤ n ∧ n < w) (hT : sp_a n T tr) (e : T n = mk) (hlow : ∀ v, sp_a n v tr → sp_g le wr ab w v → e_sm v le w.toNat - e_sm v le n.toNat = L → mk ≤ v n) (h : sp_T le wr ab w (n + 1) (L - (mk - le n)) T tr') : sp_T le wr ab w n L tr tr' := by
  obtain ⟨h1, h2, h3, h4⟩ := h
  have e' : tr' n = mk := by rw [h1 n hn.1 (by omega), e]
  have ag : sp_a n tr' tr := sp_at (fun j a b => h1 j a (by omega)) hT
  refine ⟨ag, h2, ?_, fun v a g s => ?_⟩
  · rw [e_sms hn.1, e'] at h3; omega
  · have lo := hlow v a g s
    have rg : ∀ u, sp_g le wr ab w u → ∀ j : Int, 0 ≤ j → j < (w.toNat : Nat) → 0 ≤ u j ∧ u j ≤ 3 := fun u gu j x y => by
      have z := gu.1 j x (by omega); have z2 := hle j x (by omega); omega
    by_cases q : v n = mk
    · refine h4 v (fun j x y => ?_) g (by rw [e_sms hn.1, q]; omega)
      by_cases z : j = n
      · rw [z, q, e]
      · rw [a j x (by omega), hT j x (by omega)]
    · have z1 : nu_ tr' (n + 1).toNat < nu_ v (n + 1).toNat := by
        rw [nu_s hn.1, nu_s hn.1, e', nu_c n.toNat (fun j x y => (ag j x (by omega)).trans (a j x (by omega)).symm)]
        omega
      have := nu_l w.toNat (by omega) (rg tr' h2) (rg v g) z1
      omega
theorem sp_lo {le wr ab : Int → Int} {w n L rm : Int} (hn : 0 ≤ n ∧ n < w) (hrm : rm = e_sm (fun _ => 3) le w.toNat - e_sm (fun _ => 3) le (n + 1).toNat) {v : Int → Int} (g : sp_g le wr ab w v) (s : e_sm v le w.toNat - e_sm v le n.toNat = L) : le n + max 0 (L - rm) ≤ v n ∧ v n ≤ min 3 (le n + L) := by
  have x := g.1 n hn.1 hn.2
  have r := e_rm g.1 (n := n + 1) (by omega) (w - (n + 1)).toNat (by omega)
  rw [show n + 1 + (((w - (n + 1)).toNat : Nat) : Int) = w by omega, e_sms hn.1] at r
  omega
def sp_m (m : cw_M) (tr : Int → Int) (fo le : Int) : cw_M := fun c => if c = x_settler_trial_ then tr else if c = x_settler_ then (fun j => if j = 4 then fo else if j = 5 then le else m x_settler_ j) else m c
theorem sp_m_ne {m : cw_M} {tr : Int → Int} {fo le : Int} {c : Int} (h0 : c ≠ x_settler_trial_) (h1 : c ≠ x_settler_) : sp_m m tr fo le c = m c := by
  unfold sp_m; rw [if_neg h0, if_neg h1]
theorem sp_m_tr {m : cw_M} {tr : Int → Int} {fo le : Int} : sp_m m tr fo le x_settler_trial_ = tr := rfl
theorem sp_m_ox_settler_ {m : cw_M} {tr : Int → Int} {fo le : Int} {j : Int} (h0 : j ≠ 4) (h1 : j ≠ 5) : sp_m m tr fo le x_settler_ j = m x_settler_ j := by
  show (if j = 4 then fo else if j = 5 then le else m x_settler_ j) = _
  rw [if_neg h0, if_neg h1]
theorem sp_m_ok {m : cw_M} {tr : Int → Int} {fo le : Int} (hm : la_ok m) : la_ok (sp_m m tr fo le) := by
  refine ⟨by rw [sp_m_ne (by decide) (by decide)]; exact hm.1, fun e he => ?_⟩
  obtain ⟨z1, h2, -, z4⟩ := la_lok e he
  have n0 : e.1 ≠ x_settler_trial_ := fun q => by rw [q] at h2; revert h2; decide
  by_cases q0 : e.1 = x_settler_
  · rw [q0, sp_m_ox_settler_ (fun q => by rw [q0, q] at z4; cases z4) (fun q => by rw [q0, q] at z4; cases z4), ← q0]; exact hm.2 e he
  rw [sp_m_ne n0 q0]; exact hm.2 e he
theorem sp_m_x {m M : cw_M} {tr : Int → Int} {fo le : Int} (r0 : M x_settler_trial_ = tr) (f0 : M x_settler_ 4 = fo) (f1 : M x_settler_ 5 = le) (o0 : ∀ j, j ≠ 4 → j ≠ 5 → M x_settler_ j = m x_settler_ j) (h : ∀ c, c ≠ x_settler_trial_ → c ≠ x_settler_ → M c = m c) : M = sp_m m tr fo le := by
  funext c
  by_cases h0 : c = x_settler_trial_
  · rw [h0, r0]; rfl
  by_cases h1 : c = x_settler_
  · funext j
    rw [h1]
    by_cases z0 : j = 4
    · rw [z0, f0]; rfl
    by_cases z1 : j = 5
    · rw [z1, f1]; rfl
    rw [o0 j z0 z1, sp_m_ox_settler_ z0 z1]
  rw [h c h0 h1, sp_m_ne h0 h1]
theorem sp_m_rtr {m : cw_M} {tr : Int → Int} {fo le : Int} {f : Int → Int} : cw_row (sp_m m tr fo le) x_settler_trial_ f = sp_m m f fo le := by
  refine sp_m_x rfl rfl rfl (fun j z0 z1 => by rw [cw_row_ne (by decide), sp_m_ox_settler_ z0 z1]) (fun c h0 h1 => by rw [cw_row_ne h0, sp_m_ne h0 h1])
theorem sp_m_ptr {m : cw_M} {tr : Int → Int} {fo le : Int} {i v : Int} : cw_put (sp_m m tr fo le) x_settler_trial_ i v = sp_m m (cw_up tr i v) fo le := by
  rw [cw_put_row, sp_m_rtr, sp_m_tr]
theorem sp_m_ffo {m : cw_M} {tr : Int → Int} {fo le : Int} {v : Int} : cw_put (sp_m m tr fo le) x_settler_ 4 v = sp_m m tr v le := by
  refine sp_m_x rfl rfl rfl (fun j z0 z1 => by rw [cw_put_off z0, sp_m_ox_settler_ z0 z1]) (fun c h0 h1 => by rw [cw_put_ne h1, sp_m_ne h0 h1])
theorem sp_m_fle {m : cw_M} {tr : Int → Int} {fo le : Int} {v : Int} : cw_put (sp_m m tr fo le) x_settler_ 5 v = sp_m m tr fo v := by
  refine sp_m_x rfl rfl rfl (fun j z0 z1 => by rw [cw_put_off z1, sp_m_ox_settler_ z0 z1]) (fun c h0 h1 => by rw [cw_put_ne h1, sp_m_ne h0 h1])
theorem sp_m_2 {m : cw_M} {tr : Int → Int} {fo le : Int} {tr' : Int → Int} {fo' le' : Int} : sp_m (sp_m m tr fo le) tr' fo' le' = sp_m m tr' fo' le' := by
  refine sp_m_x rfl rfl rfl (fun j z0 z1 => by rw [sp_m_ox_settler_ z0 z1, sp_m_ox_settler_ z0 z1]) (fun c h0 h1 => by rw [sp_m_ne h0 h1, sp_m_ne h0 h1])
theorem sp_m_self {m : cw_M} : sp_m m (m x_settler_trial_) (m x_settler_ 4) (m x_settler_ 5) = m := by
  refine (sp_m_x rfl rfl rfl (fun _ _ _ => rfl) (fun _ _ _ => rfl)).symm
theorem Se_sp194 {d : Nat} {m : cw_M} {Q : Option cw_V → cw_M → Prop} (hm : la_ok m) {T : Int → Int} {n L a b c rm fr tp mk : Int} {w20 w21 : cw_V} (hn : 0 ≤ n ∧ n < 6) (ex : ∀ (x y z : Int) (w20 w21 : cw_V), sp_q (m x_forest_above_) T n mk n 0 a x → sp_q (m x_forest_above_) T n mk n 1 b y → sp_q (m x_forest_above_) T n mk n 2 c z → cw_R d k_Se_spread 310 [vr x_settler_, vi n, vi L, vl a, none, vl b, none, vl c, none, vi rm, vi fr, vi tp, vi mk, vl x, none, vl y, none, vl z, none, vi n, w20, w21] [] (sp_m m T x_forest_ x_will_marks_) Q) : cw_R d k_Se_spread 194 [vr x_settler_, vi n, vi L, vl a, none, vl b, none, vl c, none, vi rm, vi fr, vi tp, vi mk, vl a, none, vl b, none, vl c, none, vi 0, w20, w21] [] (sp_m m T x_forest_ x_will_marks_) Q := by
  have hm2 : la_ok (sp_m m T x_forest_ x_will_marks_) := sp_m_ok hm
  have lp : ∀ (r : Nat) (k x y z : Int) (w20 w21 : cw_V), n < k + r → (0 ≤ k ∧ k ≤ n) → (sp_q (m x_forest_above_) T n mk k 0 a x) → (sp_q (m x_forest_above_) T n mk k 1 b y) → (sp_q (m x_forest_above_) T n mk k 2 c z) → cw_R (d) k_Se_spread 194 [vr x_settler_, vi n, vi L, vl a, none, vl b, none, vl c, none, vi rm, vi fr, vi tp, vi mk, vl x, none, vl y, none, vl z, none, vi k, w20, w21] [] (sp_m m T x_forest_ x_will_marks_) Q := by
    intro r
    induction r with
    | zero =>
      intro k x y z w20 w21 hr hk hx hy hz
      omega
    | succ r ih =>
      intro k x y z w20 w21 hr hk hx hy hz
      refine la_go_R hm2 63 [194, 310] ?_
      refine And.intro (fun (c21 : n ≤ k) => ?_) (fun (c21 : ¬ (n ≤ k)) => ?_)
      · show cw_R _ _ 310 [vr x_settler_, vi n, vi L, vl a, none, vl b, none, vl c, none, vi rm, vi fr, vi tp, vi mk, vl x, none, vl y, none, vl z, none, vi k, w20, w21] [] (sp_m m T x_forest_ x_will_marks_) _
        rw [show k = n by omega] at hx hy hz
        rw [show k = n by omega]
        exact ex x y z w20 w21 hx hy hz
      · refine And.intro (show 0 ≤ k ∧ k < 6 by omega) ?_
        refine And.intro (fun (c22 : T k = mk) => ?_) (fun (c22 : ¬ (T k = mk)) => ?_)
        · refine And.intro (show -2147483648 ≤ k + 1 ∧ k + 1 < 2147483648 by omega) ?_
          show cw_R _ _ 194 [vr x_settler_, vi n, vi L, vl a, none, vl b, none, vl c, none, vi rm, vi fr, vi tp, vi mk, vl x, none, vl y, none, vl z, none, vi (k + 1), w20, w21] [] (sp_m m T x_forest_ x_will_marks_) _
          refine ih (k + 1) _ _ _ _ _ (by omega) (by omega) ?_ ?_ ?_
          · exact (sp_qe hx (by omega))
          · exact (sp_qe hy (by omega))
          · exact (sp_qe hz (by omega))
        · refine And.intro (show 0 ≤ k ∧ k < 6 by omega) ?_
          refine And.intro (fun (c23 : mk ≤ T k) => ?_) (fun (c23 : ¬ (mk ≤ T k)) => ?_)
          · refine And.intro (show -2147483648 ≤ n * 6 ∧ n * 6 < 2147483648 by omega) ?_
            refine br_t (show n ≠ k by omega) ?_
            refine And.intro (show -2147483648 ≤ (n * 6) + k ∧ (n * 6) + k < 2147483648 by omega) ?_
            refine And.intro (show -2147483648 ≤ ((n * 6) + k) * 3 ∧ ((n * 6) + k) * 3 < 2147483648 by omega) ?_
            refine And.intro (show 0 ≤ ((n * 6) + k) * 3 ∧ ((n * 6) + k) * 3 < 108 by omega) ?_
            refine And.intro (show -2147483648 ≤ (((n * 6) + k) * 3) + 1 ∧ (((n * 6) + k) * 3) + 1 < 2147483648 by omega) ?_
            refine And.intro (show 0 ≤ (((n * 6) + k) * 3) + 1 ∧ (((n * 6) + k) * 3) + 1 < 108 by omega) ?_
            refine And.intro (show -2147483648 ≤ (((n * 6) + k) * 3) + 2 ∧ (((n * 6) + k) * 3) + 2 < 2147483648 by omega) ?_
            refine And.intro (show 0 ≤ (((n * 6) + k) * 3) + 2 ∧ (((n * 6) + k) * 3) + 2 < 108 by omega) ?_
            refine And.intro (show -2147483648 ≤ k + 1 ∧ k + 1 < 2147483648 by omega) ?_
            show cw_R _ _ 194 [vr x_settler_, vi n, vi L, vl a, none, vl b, none, vl c, none, vi rm, vi fr, vi tp, vi mk, vl (cw_lor x (m x_forest_above_ (((n * 6) + k) * 3))), none, vl (cw_lor y (m x_forest_above_ ((((n * 6) + k) * 3) + 1))), none, vl (cw_lor z (m x_forest_above_ ((((n * 6) + k) * 3) + 2))), none, vi (k + 1), vi n, vi (((n * 6) + k) * 3)] [] (sp_m m T x_forest_ x_will_marks_) _
            refine ih (k + 1) _ _ _ _ _ (by omega) (by omega) ?_ ?_ ?_
            · have := (sp_qg hk.1 hx (by omega)); rw [Int.add_zero] at this; exact this
            · exact (sp_qg hk.1 hy (by omega))
            · exact (sp_qg hk.1 hz (by omega))
          · refine And.intro (show -2147483648 ≤ k * 6 ∧ k * 6 < 2147483648 by omega) ?_
            refine br_f (show ¬ (k ≠ k) by omega) ?_
            refine And.intro (show -2147483648 ≤ (k * 6) + n ∧ (k * 6) + n < 2147483648 by omega) ?_
            refine And.intro (show -2147483648 ≤ ((k * 6) + n) * 3 ∧ ((k * 6) + n) * 3 < 2147483648 by omega) ?_
            refine And.intro (show 0 ≤ ((k * 6) + n) * 3 ∧ ((k * 6) + n) * 3 < 108 by omega) ?_
            refine And.intro (show -2147483648 ≤ (((k * 6) + n) * 3) + 1 ∧ (((k * 6) + n) * 3) + 1 < 2147483648 by omega) ?_
            refine And.intro (show 0 ≤ (((k * 6) + n) * 3) + 1 ∧ (((k * 6) + n) * 3) + 1 < 108 by omega) ?_
            refine And.intro (show -2147483648 ≤ (((k * 6) + n) * 3) + 2 ∧ (((k * 6) + n) * 3) + 2 < 2147483648 by omega) ?_
            refine And.intro (show 0 ≤ (((k * 6) + n) * 3) + 2 ∧ (((k * 6) + n) * 3) + 2 < 108 by omega) ?_
            refine And.intro (show -2147483648 ≤ k + 1 ∧ k + 1 < 2147483648 by omega) ?_
            show cw_R _ _ 194 [vr x_settler_, vi n, vi L, vl a, none, vl b, none, vl c, none, vi rm, vi fr, vi tp, vi mk, vl (cw_lor x (m x_forest_above_ (((k * 6) + n) * 3))), none, vl (cw_lor y (m x_forest_above_ ((((k * 6) + n) * 3) + 1))), none, vl (cw_lor z (m x_forest_above_ ((((k * 6) + n) * 3) + 2))), none, vi (k + 1), vi k, vi (((k * 6) + n) * 3)] [] (sp_m m T x_forest_ x_will_marks_) _
            refine ih (k + 1) _ _ _ _ _ (by omega) (by omega) ?_ ?_ ?_
            · have := (sp_ql hk.1 hx (by omega)); rw [Int.add_zero] at this; exact this
            · exact (sp_ql hk.1 hy (by omega))
            · exact (sp_ql hk.1 hz (by omega))
  exact lp (n.toNat + 1) 0 a b c w20 w21 (by omega) (by omega) sp_q0 sp_q0 sp_q0
theorem e_3b {le : Int → Int} {n : Int} (hn : 0 ≤ n) (hle : ∀ j, 0 ≤ j → j < 6 → 0 ≤ le j ∧ le j ≤ 3) : ∀ f : Nat, n + f ≤ 6 → 0 ≤ e_sm (fun _ => 3) le (n + f).toNat - e_sm (fun _ => 3) le n.toNat ∧ e_sm (fun _ => 3) le (n + f).toNat - e_sm (fun _ => 3) le n.toNat ≤ 3 * f
  | 0, _ => by rw [show (n + ((0 : Nat) : Int)) = n by omega]; omega
  | f + 1, hf => by
    have i := e_3b hn hle f (by omega)
    have x := hle (n + f) (by omega) (by omega)
    rw [show (n + ((f + 1 : Nat) : Int)) = n + (f : Int) + 1 by omega, e_sms (by omega)]
    try dsimp only
    omega
theorem Se_sp98 {d : Nat} {m : cw_M} {Q : Option cw_V → cw_M → Prop} (hm : la_ok m) {tr : Int → Int} {n L a b c : Int} (hw : 0 ≤ (m x_forest_ 5) ∧ (m x_forest_ 5) ≤ 6) (hle : ∀ j, 0 ≤ j → j < 6 → 0 ≤ (m x_will_marks_) j ∧ (m x_will_marks_) j ≤ 3) (hn : 0 ≤ n ∧ n < (m x_forest_ 5)) (ex : cw_R d k_Se_spread 130 [vr x_settler_, vi n, vi L, vl a, none, vl b, none, vl c, none, vi (e_sm (fun _ => 3) (m x_will_marks_) (m x_forest_ 5).toNat - e_sm (fun _ => 3) (m x_will_marks_) (n + 1).toNat), vi (m x_forest_ 5), none, none, none, none, none, none, none, none, none, none, none] [] (sp_m m tr x_forest_ x_will_marks_) Q) : cw_R d k_Se_spread 98 [vr x_settler_, vi n, vi L, vl a, none, vl b, none, vl c, none, vi 0, vi (n + 1), none, none, none, none, none, none, none, none, none, none, none] [] (sp_m m tr x_forest_ x_will_marks_) Q := by
  have hm2 : la_ok (sp_m m tr x_forest_ x_will_marks_) := sp_m_ok hm
  have e_b := fun (h : 0 ≤ n + 1) => e_3b (n := n + 1) h hle
  have lp : ∀ (r : Nat) (k : Int), (m x_forest_ 5) < k + r → (n + 1 ≤ k ∧ k ≤ (m x_forest_ 5)) → cw_R (d) k_Se_spread 98 [vr x_settler_, vi n, vi L, vl a, none, vl b, none, vl c, none, vi (e_sm (fun _ => 3) (m x_will_marks_) k.toNat - e_sm (fun _ => 3) (m x_will_marks_) (n + 1).toNat), vi k, none, none, none, none, none, none, none, none, none, none, none] [] (sp_m m tr x_forest_ x_will_marks_) Q := by
    intro r
    induction r with
    | zero =>
      intro k hr hk
      omega
    | succ r ih =>
      intro k hr hk
      have lk := hle k (by omega)
      have br := e_b (by omega) (k - (n + 1)).toNat (by omega)
      rw [show n + 1 + (((k - (n + 1)).toNat : Nat) : Int) = k by omega] at br
      refine la_go_R hm2 19 [98, 130] ?_
      refine And.intro (fun (c21 : m x_forest_ 5 ≤ k) => ?_) (fun (c21 : ¬ (m x_forest_ 5 ≤ k)) => ?_)
      · show cw_R _ _ 130 [vr x_settler_, vi n, vi L, vl a, none, vl b, none, vl c, none, vi (e_sm (fun _ => 3) (m x_will_marks_) k.toNat - e_sm (fun _ => 3) (m x_will_marks_) (n + 1).toNat), vi k, none, none, none, none, none, none, none, none, none, none, none] [] (sp_m m tr x_forest_ x_will_marks_) _
        rw [show k = (m x_forest_ 5) by omega]
        exact ex
      · refine And.intro (show 0 ≤ k ∧ k < 6 by omega) ?_
        refine And.intro (show -2147483648 ≤ 3 - (m x_will_marks_ k) ∧ 3 - (m x_will_marks_ k) < 2147483648 by omega) ?_
        refine And.intro (show -2147483648 ≤ (e_sm (fun _ => 3) (m x_will_marks_) k.toNat - e_sm (fun _ => 3) (m x_will_marks_) (n + 1).toNat) + (3 - (m x_will_marks_ k)) ∧ (e_sm (fun _ => 3) (m x_will_marks_) k.toNat - e_sm (fun _ => 3) (m x_will_marks_) (n + 1).toNat) + (3 - (m x_will_marks_ k)) < 2147483648 by omega) ?_
        refine And.intro (show -2147483648 ≤ k + 1 ∧ k + 1 < 2147483648 by omega) ?_
        show cw_R _ _ 98 [vr x_settler_, vi n, vi L, vl a, none, vl b, none, vl c, none, vi ((e_sm (fun _ => 3) (m x_will_marks_) k.toNat - e_sm (fun _ => 3) (m x_will_marks_) (n + 1).toNat) + (3 - (m x_will_marks_ k))), vi (k + 1), none, none, none, none, none, none, none, none, none, none, none] [] (sp_m m tr x_forest_ x_will_marks_) _
        rw [show (e_sm (fun _ => 3) (m x_will_marks_) k.toNat - e_sm (fun _ => 3) (m x_will_marks_) (n + 1).toNat) + (3 - (m x_will_marks_ k)) = (e_sm (fun _ => 3) (m x_will_marks_) (k + 1).toNat - e_sm (fun _ => 3) (m x_will_marks_) (n + 1).toNat) by rw [e_sms (mk := fun _ => 3) (le := (m x_will_marks_)) (n := k) (by omega)]; omega]
        exact ih (k + 1) (by omega) (by omega)
  have st := lp (((m x_forest_ 5)).toNat + 1) (n + 1) (by omega) (by omega)
  rw [show (e_sm (fun _ => 3) (m x_will_marks_) (n + 1).toNat - e_sm (fun _ => 3) (m x_will_marks_) (n + 1).toNat) = 0 by omega] at st
  exact st
