/-! What settles a reading, by the class (wip/whole/tools/m145.py). -/
def s_al (go : Int → Int) (t0 t : Int) : Prop := ∀ p, 0 ≤ p → p < 6 → go (t * 6 + p) = go (t0 * 6 + p)
/-- the trees below a bound that give otherwise, as bits -/
def s_w (go : Int → Int) (t0 k : Int) (wr : Int → Int) : Prop := ∀ part, 0 ≤ part → part < 3 → ∀ b : Nat, b < 64 → (l_b (wr part) b = true ↔ 64 * part + b < k ∧ ¬ s_al go t0 (64 * part + b))
theorem s_w0 {go wr : Int → Int} {t0 : Int} (h : ∀ i, 0 ≤ i → i < 3 → wr i = 0) : s_w go t0 0 wr := fun part a b c hb => by
  rw [h part a b, l_0]
  exact ⟨fun q => absurd q (by decide), fun q => by omega⟩
theorem s_w1 {go wr : Int → Int} {t0 k : Int} (h : s_w go t0 k wr) (ha : s_al go t0 k) : s_w go t0 (k + 1) wr := fun part a b c hb => by
  rw [h part a b c hb]
  constructor
  · rintro ⟨x, y⟩; exact ⟨by omega, y⟩
  · rintro ⟨x, y⟩
    refine ⟨?_, y⟩
    by_cases e : 64 * part + (c : Int) = k
    · rw [e] at y; exact absurd ha y
    · omega
theorem s_w2 {go wr : Int → Int} {t0 k : Int} (hk : 0 ≤ k ∧ k < 192) (h : s_w go t0 k wr) (ha : ¬ s_al go t0 k) : s_w go t0 (k + 1) (cw_up wr (k / 64) (cw_lor (wr (k / 64)) (cw_lshl 1 (k % 64)))) := fun part a b c hb => by
  by_cases e : part = k / 64
  · rw [e, cw_up_eq, l_or, Bool.or_eq_true, ← e, h part a b c hb, l_shl (by omega) hb, decide_eq_true_iff]
    constructor
    · rintro (⟨x, y⟩ | x)
      · exact ⟨by omega, y⟩
      · have e2 : 64 * part + (c : Int) = k := by omega
        rw [e2]; exact ⟨by omega, ha⟩
    · rintro ⟨x, y⟩
      by_cases e2 : 64 * part + (c : Int) = k
      · exact Or.inr (by omega)
      · exact Or.inl ⟨by omega, y⟩
  · rw [cw_up_ne e, h part a b c hb]
    constructor
    · rintro ⟨x, y⟩; exact ⟨by omega, y⟩
    · rintro ⟨x, y⟩; exact ⟨by omega, y⟩
/-- marks were found, the best -/
def s_F (le wr ab : Int → Int) (w mo : Int) (tr : Int → Int) : Prop := 0 ≤ mo ∧ sp_g le wr ab w tr ∧ mo = e_sm tr le w.toNat ∧ ∀ mk, sp_g le wr ab w mk → e_sm tr le w.toNat < e_sm mk le w.toNat ∨ (e_sm tr le w.toNat = e_sm mk le w.toNat ∧ nu_ tr w.toNat ≤ nu_ mk w.toNat)
theorem s_FT {le wr ab tr tr' : Int → Int} {w tot : Int} (h0 : 0 ≤ tot) (h : sp_T le wr ab w 0 tot tr tr') (hn : ∀ mk, sp_g le wr ab w mk → tot ≤ e_sm mk le w.toNat) : s_F le wr ab w tot tr' := by
  obtain ⟨-, h2, h3, h4⟩ := h
  have e : e_sm tr' le w.toNat = tot := by
    have : e_sm tr' le (0 : Int).toNat = 0 := rfl
    omega
  refine ⟨h0, h2, e.symm, fun mk g => ?_⟩
  have l := hn mk g
  by_cases q : e_sm mk le w.toNat = tot
  · refine Or.inr ⟨by omega, h4 mk (fun j a b => by omega) g ?_⟩
    have : e_sm mk le (0 : Int).toNat = 0 := rfl
    omega
  · exact Or.inl (by omega)
theorem sp_o0 {ab tr : Int → Int} {part : Int} : sp_o ab tr 0 part 0 := fun b _ => by
  rw [l_0]
  exact ⟨fun q => absurd q (by decide), fun ⟨j, k, hj, _⟩ => by omega⟩
/-- what stands as the answer for a tree -/
def s_A (K : Int → Int) (t mo : Int) (tr : Int → Int) : Prop := (mo = -1 ∧ ∀ mk, ¬ S_K K t mk) ∨ (0 ≤ mo ∧ B_K K t tr ∧ mo = e_sm tr K (K 46 - 1).toNat)
def E_s (m : cw_M) (K : Int → Int) : Prop := m x_settler_ 0 = -1 ∨ ((0 ≤ m x_settler_ 0 ∧ m x_settler_ 0 < t_tm (K 46)) ∧ s_A K (m x_settler_ 0) (m x_settler_ 1) (m x_settler_trial_))
theorem E_sV {m M : cw_M} {K : Int → Int} (h : E_s m K) (hV : V_s m M) : E_s M K := by
  unfold E_s at h ⊢
  rw [hV.1 x_settler_ (by decide) (by decide), hV.1 x_settler_trial_ (by decide) (by decide)]
  exact h
theorem e_smk {mk le K : Int → Int} : ∀ n : Nat, (∀ j : Int, 0 ≤ j → j < n → le j = K j) → e_sm mk le n = e_sm mk K n
  | 0, _ => rfl
  | n + 1, h => by
    show e_sm mk le n + (mk n - le n) = e_sm mk K n + (mk n - K n)
    rw [e_smk n (fun j a b => h j a (by omega)), h n (by omega) (by omega)]
theorem s_gS {K le wr ab de go : Int → Int} {t0 : Int} {mk : Int → Int} (hK : 1 ≤ K 46 ∧ K 46 ≤ 7) (hle : ∀ j, 0 ≤ j → j < 6 → le j = K j) (hF : F_k (K 46 - 1) (F_tr (K 46 - 1)) de ab) (hw : s_w go t0 (t_tm (K 46)) wr) (hgo : ∀ t, 0 ≤ t → t < t_tm (K 46) → ∀ p, 0 ≤ p → p < 6 → go (t * 6 + p) = G_K K t p) (ht0 : 0 ≤ t0 ∧ t0 < t_tm (K 46)) : sp_g le wr ab (K 46 - 1) mk ↔ S_K K t0 mk := by
  have tq := t_tmr (n := K 46) (by omega)
  have eF : F_tr (K 46 - 1) = t_tm (K 46) := by unfold F_tr t_tm; rw [if_neg (by omega), if_neg (by omega)]
  have al : ∀ t, 0 ≤ t → t < t_tm (K 46) → (s_al go t0 t ↔ ∀ p, 0 ≤ p → p < 6 → G_K K t p = G_K K t0 p) := fun t a b => by
    unfold s_al
    constructor
    · intro h p x y; rw [← hgo t a b p x y, ← hgo t0 ht0.1 ht0.2 p x y]; exact h p x y
    · intro h p x y; rw [hgo t a b p x y, hgo t0 ht0.1 ht0.2 p x y]; exact h p x y
  constructor
  · rintro ⟨g1, g2⟩
    refine ⟨fun j a b => by rw [← hle j a (by omega)]; exact g1 j a b, fun t a b hR => (al t a b).mp (Classical.not_not.mp (fun na => ?_))⟩
    have o := F_outP (part := t / 64) (mk := mk) (by omega) (by omega) hF (t := t) (by omega) (by omega)
    refine o.mp (g2 (t / 64) (by omega) (by omega) (t % 64).toNat (by omega) ((hw (t / 64) (by omega) (by omega) (t % 64).toNat (by omega)).mpr ?_)) hR
    rw [show 64 * (t / 64) + (((t % 64).toNat : Nat) : Int) = t by omega]
    exact ⟨b, na⟩
  · rintro ⟨g1, g2⟩
    refine ⟨fun j a b => by rw [hle j a (by omega)]; exact g1 j a b, fun part a b c hc hbit => ?_⟩
    have z := (hw part a b c hc).mp hbit
    have o := F_outP (part := part) (mk := mk) (by omega) ⟨a, b⟩ hF (t := 64 * part + c) (by omega) (by omega)
    rw [show ((64 * part + (c : Int)) % 64).toNat = c by omega] at o
    refine o.mpr (fun hR => z.2 ((al _ (by omega) z.1).mpr (g2 _ (by omega) z.1 hR)))
theorem s_AF {K le wr ab de go : Int → Int} {t0 mo : Int} {tr : Int → Int} (hK : 1 ≤ K 46 ∧ K 46 ≤ 7) (hle : ∀ j, 0 ≤ j → j < 6 → le j = K j) (hF : F_k (K 46 - 1) (F_tr (K 46 - 1)) de ab) (hw : s_w go t0 (t_tm (K 46)) wr) (hgo : ∀ t, 0 ≤ t → t < t_tm (K 46) → ∀ p, 0 ≤ p → p < 6 → go (t * 6 + p) = G_K K t p) (ht0 : 0 ≤ t0 ∧ t0 < t_tm (K 46)) (h : (mo = -1 ∧ ∀ mk, ¬ sp_g le wr ab (K 46 - 1) mk) ∨ s_F le wr ab (K 46 - 1) mo tr) : s_A K t0 mo tr := by
  have eq := fun mk => s_gS (mk := mk) hK hle hF hw hgo ht0
  have es := fun mk => e_smk (mk := mk) (le := le) (K := K) (K 46 - 1).toNat (fun j a b => hle j a (by omega))
  rcases h with ⟨h1, h2⟩ | ⟨h1, h2, h3, h4⟩
  · exact Or.inl ⟨h1, fun mk g => h2 mk ((eq mk).mpr g)⟩
  · refine Or.inr ⟨h1, ⟨(eq tr).mp h2, fun mk g => ?_⟩, by rw [h3, es]⟩
    rw [← es, ← es]
    exact h4 mk ((eq mk).mpr g)
theorem s_RA {K : Int → Int} {rd w mo : Int} {tr : Int → Int} (hg : (0 ≤ rd ∧ rd < ((R_K K).length : Int)) ∧ 0 ≤ w ∧ w ≤ K 46 - 1) (h : s_A K (t_g (R_K K) rd) mo tr) : ((mo = -1 ∨ w = 0) → s_R K rd w mo) ∧ (mo ≠ -1 → w ≠ 0 → s_R K rd w (tr (w - 1))) := by
  unfold s_R
  rw [if_pos hg]
  rcases h with ⟨h1, h2⟩ | ⟨h1, h2, h3⟩
  · exact ⟨fun _ => Or.inr ⟨h2, h1⟩, fun q => absurd h1 q⟩
  · refine ⟨fun q => Or.inl ⟨tr, h2, Or.inl ⟨by omega, h3⟩⟩, fun _ q => ?_⟩
    rw [if_pos hg]
    exact Or.inl ⟨tr, h2, Or.inr ⟨by omega, rfl⟩⟩
def ss_m (m : cw_M) (wr tr : Int → Int) (ta mo fo le : Int) : cw_M := fun c => if c = x_settler_wrong_ then wr else if c = x_settler_trial_ then tr else if c = x_settler_ then (fun j => if j = 0 then ta else if j = 1 then mo else if j = 4 then fo else if j = 5 then le else m x_settler_ j) else m c
theorem ss_m_ne {m : cw_M} {wr tr : Int → Int} {ta mo fo le : Int} {c : Int} (h0 : c ≠ x_settler_wrong_) (h1 : c ≠ x_settler_trial_) (h2 : c ≠ x_settler_) : ss_m m wr tr ta mo fo le c = m c := by
  unfold ss_m; rw [if_neg h0, if_neg h1, if_neg h2]
theorem ss_m_wr {m : cw_M} {wr tr : Int → Int} {ta mo fo le : Int} : ss_m m wr tr ta mo fo le x_settler_wrong_ = wr := rfl
theorem ss_m_tr {m : cw_M} {wr tr : Int → Int} {ta mo fo le : Int} : ss_m m wr tr ta mo fo le x_settler_trial_ = tr := rfl
theorem ss_m_ox_settler_ {m : cw_M} {wr tr : Int → Int} {ta mo fo le : Int} {j : Int} (h0 : j ≠ 0) (h1 : j ≠ 1) (h2 : j ≠ 4) (h3 : j ≠ 5) : ss_m m wr tr ta mo fo le x_settler_ j = m x_settler_ j := by
  show (if j = 0 then ta else if j = 1 then mo else if j = 4 then fo else if j = 5 then le else m x_settler_ j) = _
  rw [if_neg h0, if_neg h1, if_neg h2, if_neg h3]
theorem ss_m_ok {m : cw_M} {wr tr : Int → Int} {ta mo fo le : Int} (hm : la_ok m) : la_ok (ss_m m wr tr ta mo fo le) := by
  refine ⟨by rw [ss_m_ne (by decide) (by decide) (by decide)]; exact hm.1, fun e he => ?_⟩
  obtain ⟨z1, h2, -, z4⟩ := la_lok e he
  have n0 : e.1 ≠ x_settler_wrong_ := fun q => by rw [q] at h2; revert h2; decide
  have n1 : e.1 ≠ x_settler_trial_ := fun q => by rw [q] at h2; revert h2; decide
  by_cases q0 : e.1 = x_settler_
  · rw [q0, ss_m_ox_settler_ (fun q => by rw [q0, q] at z4; cases z4) (fun q => by rw [q0, q] at z4; cases z4) (fun q => by rw [q0, q] at z4; cases z4) (fun q => by rw [q0, q] at z4; cases z4), ← q0]; exact hm.2 e he
  rw [ss_m_ne n0 n1 q0]; exact hm.2 e he
theorem ss_m_x {m M : cw_M} {wr tr : Int → Int} {ta mo fo le : Int} (r0 : M x_settler_wrong_ = wr) (r1 : M x_settler_trial_ = tr) (f0 : M x_settler_ 0 = ta) (f1 : M x_settler_ 1 = mo) (f2 : M x_settler_ 4 = fo) (f3 : M x_settler_ 5 = le) (o0 : ∀ j, j ≠ 0 → j ≠ 1 → j ≠ 4 → j ≠ 5 → M x_settler_ j = m x_settler_ j) (h : ∀ c, c ≠ x_settler_wrong_ → c ≠ x_settler_trial_ → c ≠ x_settler_ → M c = m c) : M = ss_m m wr tr ta mo fo le := by
  funext c
  by_cases h0 : c = x_settler_wrong_
  · rw [h0, r0]; rfl
  by_cases h1 : c = x_settler_trial_
  · rw [h1, r1]; rfl
  by_cases h2 : c = x_settler_
  · funext j
    rw [h2]
    by_cases z0 : j = 0
    · rw [z0, f0]; rfl
    by_cases z1 : j = 1
    · rw [z1, f1]; rfl
    by_cases z2 : j = 4
    · rw [z2, f2]; rfl
    by_cases z3 : j = 5
    · rw [z3, f3]; rfl
    rw [o0 j z0 z1 z2 z3, ss_m_ox_settler_ z0 z1 z2 z3]
  rw [h c h0 h1 h2, ss_m_ne h0 h1 h2]
theorem ss_m_rwr {m : cw_M} {wr tr : Int → Int} {ta mo fo le : Int} {f : Int → Int} : cw_row (ss_m m wr tr ta mo fo le) x_settler_wrong_ f = ss_m m f tr ta mo fo le := by
  refine ss_m_x rfl rfl rfl rfl rfl rfl (fun j z0 z1 z2 z3 => by rw [cw_row_ne (by decide), ss_m_ox_settler_ z0 z1 z2 z3]) (fun c h0 h1 h2 => by rw [cw_row_ne h0, ss_m_ne h0 h1 h2])
theorem ss_m_pwr {m : cw_M} {wr tr : Int → Int} {ta mo fo le : Int} {i v : Int} : cw_put (ss_m m wr tr ta mo fo le) x_settler_wrong_ i v = ss_m m (cw_up wr i v) tr ta mo fo le := by
  rw [cw_put_row, ss_m_rwr, ss_m_wr]
theorem ss_m_rtr {m : cw_M} {wr tr : Int → Int} {ta mo fo le : Int} {f : Int → Int} : cw_row (ss_m m wr tr ta mo fo le) x_settler_trial_ f = ss_m m wr f ta mo fo le := by
  refine ss_m_x rfl rfl rfl rfl rfl rfl (fun j z0 z1 z2 z3 => by rw [cw_row_ne (by decide), ss_m_ox_settler_ z0 z1 z2 z3]) (fun c h0 h1 h2 => by rw [cw_row_ne h1, ss_m_ne h0 h1 h2])
theorem ss_m_ptr {m : cw_M} {wr tr : Int → Int} {ta mo fo le : Int} {i v : Int} : cw_put (ss_m m wr tr ta mo fo le) x_settler_trial_ i v = ss_m m wr (cw_up tr i v) ta mo fo le := by
  rw [cw_put_row, ss_m_rtr, ss_m_tr]
theorem ss_m_fta {m : cw_M} {wr tr : Int → Int} {ta mo fo le : Int} {v : Int} : cw_put (ss_m m wr tr ta mo fo le) x_settler_ 0 v = ss_m m wr tr v mo fo le := by
  refine ss_m_x rfl rfl rfl rfl rfl rfl (fun j z0 z1 z2 z3 => by rw [cw_put_off z0, ss_m_ox_settler_ z0 z1 z2 z3]) (fun c h0 h1 h2 => by rw [cw_put_ne h2, ss_m_ne h0 h1 h2])
theorem ss_m_fmo {m : cw_M} {wr tr : Int → Int} {ta mo fo le : Int} {v : Int} : cw_put (ss_m m wr tr ta mo fo le) x_settler_ 1 v = ss_m m wr tr ta v fo le := by
  refine ss_m_x rfl rfl rfl rfl rfl rfl (fun j z0 z1 z2 z3 => by rw [cw_put_off z1, ss_m_ox_settler_ z0 z1 z2 z3]) (fun c h0 h1 h2 => by rw [cw_put_ne h2, ss_m_ne h0 h1 h2])
theorem ss_m_ffo {m : cw_M} {wr tr : Int → Int} {ta mo fo le : Int} {v : Int} : cw_put (ss_m m wr tr ta mo fo le) x_settler_ 4 v = ss_m m wr tr ta mo v le := by
  refine ss_m_x rfl rfl rfl rfl rfl rfl (fun j z0 z1 z2 z3 => by rw [cw_put_off z2, ss_m_ox_settler_ z0 z1 z2 z3]) (fun c h0 h1 h2 => by rw [cw_put_ne h2, ss_m_ne h0 h1 h2])
theorem ss_m_fle {m : cw_M} {wr tr : Int → Int} {ta mo fo le : Int} {v : Int} : cw_put (ss_m m wr tr ta mo fo le) x_settler_ 5 v = ss_m m wr tr ta mo fo v := by
  refine ss_m_x rfl rfl rfl rfl rfl rfl (fun j z0 z1 z2 z3 => by rw [cw_put_off z3, ss_m_ox_settler_ z0 z1 z2 z3]) (fun c h0 h1 h2 => by rw [cw_put_ne h2, ss_m_ne h0 h1 h2])
theorem ss_m_2 {m : cw_M} {wr tr : Int → Int} {ta mo fo le : Int} {wr' tr' : Int → Int} {ta' mo' fo' le' : Int} : ss_m (ss_m m wr tr ta mo fo le) wr' tr' ta' mo' fo' le' = ss_m m wr' tr' ta' mo' fo' le' := by
  refine ss_m_x rfl rfl rfl rfl rfl rfl (fun j z0 z1 z2 z3 => by rw [ss_m_ox_settler_ z0 z1 z2 z3, ss_m_ox_settler_ z0 z1 z2 z3]) (fun c h0 h1 h2 => by rw [ss_m_ne h0 h1 h2, ss_m_ne h0 h1 h2])
theorem ss_m_self {m : cw_M} : ss_m m (m x_settler_wrong_) (m x_settler_trial_) (m x_settler_ 0) (m x_settler_ 1) (m x_settler_ 4) (m x_settler_ 5) = m := by
  refine (ss_m_x rfl rfl rfl rfl rfl rfl (fun _ _ _ _ _ => rfl) (fun _ _ _ _ => rfl)).symm
theorem ss_sp {m : cw_M} {wr tr tr' : Int → Int} {ta mo : Int} : sp_m (ss_m m wr tr ta mo x_forest_ x_will_marks_) tr' x_forest_ x_will_marks_ = (ss_m m wr tr' ta mo x_forest_ x_will_marks_) := by
  refine ss_m_x ?_ ?_ ?_ ?_ ?_ ?_ (fun j a b c e => ?_) (fun c a b e => ?_)
  · rfl
  · rfl
  · rfl
  · rfl
  · rfl
  · rfl
  · rw [sp_m_ox_settler_ c e, ss_m_ox_settler_ a b c e]
  · rw [sp_m_ne b e, ss_m_ne a b e]
theorem Se_spreadS {d : Nat} {m : cw_M} {Q : Option cw_V → cw_M → Prop} (hm : la_ok m) (hw : 0 ≤ (m x_forest_ 5) ∧ (m x_forest_ 5) ≤ 6) (hle : ∀ j, 0 ≤ j → j < 6 → 0 ≤ (m x_will_marks_) j ∧ (m x_will_marks_) j ≤ 3) {wr tr : Int → Int} {ta mo tot : Int} (ht : 0 ≤ tot ∧ tot ≤ 18) (h1 : ∀ tr', sp_T (m x_will_marks_) wr (m x_forest_above_) (m x_forest_ 5) 0 tot tr tr' → Q (some (vi 1)) (ss_m m wr tr' ta mo x_forest_ x_will_marks_)) (h0 : ∀ tr', sp_F (m x_will_marks_) wr (m x_forest_above_) (m x_forest_ 5) 0 tot tr → Q (some (vi 0)) (ss_m m wr tr' ta mo x_forest_ x_will_marks_)) : cw_C (d + 6) k_Se_spread [vr x_settler_, vi 0, vi tot, vl 0, vl 0, vl 0] (ss_m m wr tr ta mo x_forest_ x_will_marks_) Q := by
  have R := Se_spread (d := d + (6 - (m x_forest_ 5).toNat)) (m := (ss_m m wr tr ta mo x_forest_ x_will_marks_)) (ss_m_ok hm) hw hle (m x_forest_ 5).toNat 0 (by omega) (show 0 + (((m x_forest_ 5).toNat : Nat) : Int) = (m x_forest_ 5) by omega)
  rw [show d + (6 - (m x_forest_ 5).toNat) + (m x_forest_ 5).toNat = d + 6 by omega] at R
  have q := R Q tr tot 0 0 0 ht (fun j a b => by omega) sp_o0 sp_o0 sp_o0 (fun tr' h => by rw [ss_sp]; exact h1 tr' h) (fun tr' _ h => by rw [ss_sp]; exact h0 tr' h)
  rw [ss_sp] at q
  exact q
theorem Se_search98 {d : Nat} {m : cw_M} {Q : Option cw_V → cw_M → Prop} (hm0 : la_ok m) (hw : 0 ≤ (m x_forest_ 5) ∧ (m x_forest_ 5) ≤ 6) (hle : ∀ j, 0 ≤ j → j < 6 → 0 ≤ (m x_will_marks_) j ∧ (m x_will_marks_) j ≤ 3) {wr tr : Int → Int} {t0 : Int} (hwr : s_w (m x_ledger_got_) t0 (m x_forest_ 0) wr) (hQ : ∀ wr tr mo, s_w (m x_ledger_got_) t0 (m x_forest_ 0) wr → ((mo = -1 ∧ ∀ mk, ¬ sp_g (m x_will_marks_) wr (m x_forest_above_) (m x_forest_ 5) mk) ∨ s_F (m x_will_marks_) wr (m x_forest_above_) (m x_forest_ 5) mo tr) → Q none (ss_m m wr tr t0 mo x_forest_ x_will_marks_)) : cw_R (d + 7) k_Se_search 98 [vr x_settler_, vi t0, vr x_forest_, vr x_ledger_, vr x_will_marks_, vi 0] [] (ss_m m wr tr t0 (-1) x_forest_ x_will_marks_) Q := by
  have lp : ∀ (r : Nat) (tot : Int) (tr : Int → Int) (mo : Int), 19 < tot + r → (0 ≤ tot ∧ tot ≤ 19) → (((mo = -1 ∧ ∀ mk, sp_g (m x_will_marks_) wr (m x_forest_above_) (m x_forest_ 5) mk → tot ≤ e_sm mk (m x_will_marks_) (m x_forest_ 5).toNat) ∨ s_F (m x_will_marks_) wr (m x_forest_above_) (m x_forest_ 5) mo tr)) → cw_R (d + 7) k_Se_search 98 [vr x_settler_, vi t0, vr x_forest_, vr x_ledger_, vr x_will_marks_, vi tot] [] (ss_m m wr tr t0 mo x_forest_ x_will_marks_) Q := by
    intro r
    induction r with
    | zero =>
      intro tot tr mo hr ht hI
      omega
    | succ r ih =>
      intro tot tr mo hr ht hI
      have hm2 : la_ok (ss_m m wr tr t0 mo x_forest_ x_will_marks_) := ss_m_ok hm0
      refine la_go_R hm2 23 [98] ?_
      refine And.intro (fun (c21 : 18 < tot) => ?_) (fun (c21 : ¬ (18 < tot)) => ?_)
      · show Q none (ss_m m wr tr t0 mo x_forest_ x_will_marks_)
        refine hQ wr tr mo hwr ?_
        rcases hI with hI | hI
        · refine Or.inl ⟨hI.1, fun mk g => ?_⟩
          have l := hI.2 mk g
          have e1 := (e_rm g.1 (n := 0) (by omega) (m x_forest_ 5).toNat (by omega)).2
          have e2 := (e_3b (le := (m x_will_marks_)) (n := 0) (by omega) hle (m x_forest_ 5).toNat (by omega)).2
          rw [show (0 : Int) + (((m x_forest_ 5).toNat : Nat) : Int) = (m x_forest_ 5) by omega] at e1 e2
          have z : e_sm mk (m x_will_marks_) (0 : Int).toNat = 0 := rfl
          omega
        · exact Or.inr hI
      · refine And.intro (fun (c22 : mo ≠ (-1)) => ?_) (fun (c22 : ¬ (mo ≠ (-1))) => ?_)
        · show Q none (ss_m m wr tr t0 mo x_forest_ x_will_marks_)
          refine hQ wr tr mo hwr ?_
          rcases hI with hI | hI
          · refine Or.inl ⟨hI.1, fun mk g => ?_⟩
            have l := hI.2 mk g
            have e1 := (e_rm g.1 (n := 0) (by omega) (m x_forest_ 5).toNat (by omega)).2
            have e2 := (e_3b (le := (m x_will_marks_)) (n := 0) (by omega) hle (m x_forest_ 5).toNat (by omega)).2
            rw [show (0 : Int) + (((m x_forest_ 5).toNat : Nat) : Int) = (m x_forest_ 5) by omega] at e1 e2
            have z : e_sm mk (m x_will_marks_) (0 : Int).toNat = 0 := rfl
            omega
          · exact Or.inr hI
        · show cw_C _ _ [vr x_settler_, vi 0, vi tot, vl 0, vl 0, vl 0] (ss_m m wr tr t0 mo x_forest_ x_will_marks_) _
          refine Se_spreadS hm0 hw hle (by omega) (fun (tr2 : Int → Int) hT2 => ⟨(ss_m_ok hm0), ?_⟩) (fun (tr2 : Int → Int) hF2 => ⟨(ss_m_ok hm0), ?_⟩)
          · refine br_f (show ¬ ((1 : Int) = 0) by decide) ?_
            have hm23 : la_ok (cw_put (ss_m m wr tr2 t0 mo x_forest_ x_will_marks_) x_settler_ 1 tot) := la_put (ss_m_ok hm0) (by decide) (Or.inl rfl)
            refine And.intro (show -2147483648 ≤ tot + 1 ∧ tot + 1 < 2147483648 by omega) ?_
            show cw_R _ _ 98 [vr x_settler_, vi t0, vr x_forest_, vr x_ledger_, vr x_will_marks_, vi (tot + 1)] [] (cw_put (ss_m m wr tr2 t0 mo x_forest_ x_will_marks_) x_settler_ 1 tot) _
            rw [ss_m_fmo]
            have hm24 : la_ok (ss_m m wr tr2 t0 tot x_forest_ x_will_marks_) := ss_m_ok hm0
            have hi := hI.resolve_right (fun z => by have := z.1; omega)
            exact ih (tot + 1) tr2 tot (by omega) (by omega) (Or.inr (s_FT ht.1 hT2 hi.2))
          · refine br_t (show (0 : Int) = 0 by decide) ?_
            refine And.intro (show -2147483648 ≤ tot + 1 ∧ tot + 1 < 2147483648 by omega) ?_
            show cw_R _ _ 98 [vr x_settler_, vi t0, vr x_forest_, vr x_ledger_, vr x_will_marks_, vi (tot + 1)] [] (ss_m m wr tr2 t0 mo x_forest_ x_will_marks_) _
            have hi := hI.resolve_right (fun z => by have := z.1; omega)
            refine ih (tot + 1) tr2 mo (by omega) (by omega) (Or.inl ⟨hi.1, fun mk g => ?_⟩)
            have l := hi.2 mk g
            by_cases q : e_sm mk (m x_will_marks_) (m x_forest_ 5).toNat = tot
            · exact absurd (hF2 mk (fun j a b => by omega) g (by have z : e_sm mk (m x_will_marks_) (0 : Int).toNat = 0 := rfl; omega)) id
            · omega
  exact lp 20 0 tr (-1) (by omega) (by omega) (Or.inl ⟨rfl, fun mk g => by
    have e1 := (e_rm g.1 (n := 0) (by omega) (m x_forest_ 5).toNat (by omega)).1
    rw [show (0 : Int) + (((m x_forest_ 5).toNat : Nat) : Int) = (m x_forest_ 5) by omega] at e1
    have z : e_sm mk (m x_will_marks_) (0 : Int).toNat = 0 := rfl
    omega⟩)
theorem Se_search47 {d : Nat} {m : cw_M} {Q : Option cw_V → cw_M → Prop} (hm0 : la_ok m) (hw : 0 ≤ (m x_forest_ 5) ∧ (m x_forest_ 5) ≤ 6) (hle : ∀ j, 0 ≤ j → j < 6 → 0 ≤ (m x_will_marks_) j ∧ (m x_will_marks_) j ≤ 3) (htr : 0 ≤ m x_forest_ 0 ∧ m x_forest_ 0 ≤ 132) {wr tr : Int → Int} {t0 : Int} (ht0 : 0 ≤ t0 ∧ t0 < 132) (hwr : ∀ i, 0 ≤ i → i < 3 → wr i = 0) (hQ : ∀ wr tr mo, s_w (m x_ledger_got_) t0 (m x_forest_ 0) wr → ((mo = -1 ∧ ∀ mk, ¬ sp_g (m x_will_marks_) wr (m x_forest_above_) (m x_forest_ 5) mk) ∨ s_F (m x_will_marks_) wr (m x_forest_above_) (m x_forest_ 5) mo tr) → Q none (ss_m m wr tr t0 mo x_forest_ x_will_marks_)) : cw_R (d + 7) k_Se_search 47 [vr x_settler_, vi t0, vr x_forest_, vr x_ledger_, vr x_will_marks_, vi 0] [] (ss_m m wr tr t0 (-1) x_forest_ x_will_marks_) Q := by
  have lp : ∀ (r : Nat) (k : Int) (wr : Int → Int), m x_forest_ 0 < k + r → (0 ≤ k ∧ k ≤ m x_forest_ 0) → (s_w (m x_ledger_got_) t0 k wr) → cw_R (d + 7) k_Se_search 47 [vr x_settler_, vi t0, vr x_forest_, vr x_ledger_, vr x_will_marks_, vi k] [] (ss_m m wr tr t0 (-1) x_forest_ x_will_marks_) Q := by
    intro r
    induction r with
    | zero =>
      intro k wr hr hk hwr
      omega
    | succ r ih =>
      intro k wr hr hk hwr
      have hm2 : la_ok (ss_m m wr tr t0 (-1) x_forest_ x_will_marks_) := ss_m_ok hm0
      have l6 := l_63 (t := k) (by omega)
      refine la_go_R hm2 29 [47, 98] ?_
      refine And.intro (fun (c21 : m x_forest_ 0 ≤ k) => ?_) (fun (c21 : ¬ (m x_forest_ 0 ≤ k)) => ?_)
      · show cw_R _ _ 98 [vr x_settler_, vi t0, vr x_forest_, vr x_ledger_, vr x_will_marks_, vi 0] [] (ss_m m wr tr t0 (-1) x_forest_ x_will_marks_) _
        exact Se_search98 hm0 hw hle (by rw [show m x_forest_ 0 = k by omega]; exact hwr) hQ
      · show cw_C _ _ [vr x_ledger_, vi k, vi t0] (ss_m m wr tr t0 (-1) x_forest_ x_will_marks_) _
        refine Le_areAlike hm2 (by omega) (by omega) (fun (ha : s_al (m x_ledger_got_) t0 k) => ⟨hm2, ?_⟩) (fun (ha : ¬ s_al (m x_ledger_got_) t0 k) => ⟨hm2, ?_⟩)
        · refine br_t (show (1 : Int) ≠ 0 by decide) ?_
          refine And.intro (show -2147483648 ≤ k + 1 ∧ k + 1 < 2147483648 by omega) ?_
          show cw_R _ _ 47 [vr x_settler_, vi t0, vr x_forest_, vr x_ledger_, vr x_will_marks_, vi (k + 1)] [] (ss_m m wr tr t0 (-1) x_forest_ x_will_marks_) _
          exact ih (k + 1) wr (by omega) (by omega) (s_w1 hwr ha)
        · refine br_f (show ¬ ((0 : Int) ≠ 0) by decide) ?_
          refine And.intro (show 0 ≤ cw_ishr k 6 ∧ cw_ishr k 6 < 3 by rw [l6.2]; omega) ?_
          refine And.intro (show 0 ≤ cw_ishr k 6 ∧ cw_ishr k 6 < 3 by rw [l6.2]; omega) ?_
          have hm22 : la_ok (cw_put (ss_m m wr tr t0 (-1) x_forest_ x_will_marks_) x_settler_wrong_ (cw_ishr k 6) (cw_lor (wr (cw_ishr k 6)) (cw_lshl 1 (cw_iand k 63)))) := la_put hm2 (by decide) (Or.inr (by decide))
          refine And.intro (show -2147483648 ≤ k + 1 ∧ k + 1 < 2147483648 by omega) ?_
          show cw_R _ _ 47 [vr x_settler_, vi t0, vr x_forest_, vr x_ledger_, vr x_will_marks_, vi (k + 1)] [] (cw_put (ss_m m wr tr t0 (-1) x_forest_ x_will_marks_) x_settler_wrong_ (cw_ishr k 6) (cw_lor (wr (cw_ishr k 6)) (cw_lshl 1 (cw_iand k 63)))) _
          rw [ss_m_pwr]
          have hm23 : la_ok (ss_m m (cw_up wr (cw_ishr k 6) (cw_lor (wr (cw_ishr k 6)) (cw_lshl 1 (cw_iand k 63)))) tr t0 (-1) x_forest_ x_will_marks_) := ss_m_ok hm0
          have l6 := l_63 (t := k) (by omega)
          rw [l6.1, l6.2]
          exact ih (k + 1) _ (by omega) (by omega) (s_w2 (by omega) hwr ha)
  exact lp ((m x_forest_ 0).toNat + 1) 0 wr (by omega) (by omega) (s_w0 hwr)
theorem Se_search24 {d : Nat} {m : cw_M} {Q : Option cw_V → cw_M → Prop} (hm0 : la_ok m) (hw : 0 ≤ (m x_forest_ 5) ∧ (m x_forest_ 5) ≤ 6) (hle : ∀ j, 0 ≤ j → j < 6 → 0 ≤ (m x_will_marks_) j ∧ (m x_will_marks_) j ≤ 3) (htr : 0 ≤ m x_forest_ 0 ∧ m x_forest_ 0 ≤ 132) {wr tr : Int → Int} {t0 : Int} (ht0 : 0 ≤ t0 ∧ t0 < 132) (hQ : ∀ wr tr mo, s_w (m x_ledger_got_) t0 (m x_forest_ 0) wr → ((mo = -1 ∧ ∀ mk, ¬ sp_g (m x_will_marks_) wr (m x_forest_above_) (m x_forest_ 5) mk) ∨ s_F (m x_will_marks_) wr (m x_forest_above_) (m x_forest_ 5) mo tr) → Q none (ss_m m wr tr t0 mo x_forest_ x_will_marks_)) : cw_R (d + 7) k_Se_search 24 [vr x_settler_, vi t0, vr x_forest_, vr x_ledger_, vr x_will_marks_, vi 0] [] (ss_m m wr tr t0 (-1) x_forest_ x_will_marks_) Q := by
  have lp : ∀ (r : Nat) (k : Int) (wr : Int → Int), 3 < k + r → (0 ≤ k ∧ k ≤ 3) → (∀ i, 0 ≤ i → i < k → wr i = 0) → cw_R (d + 7) k_Se_search 24 [vr x_settler_, vi t0, vr x_forest_, vr x_ledger_, vr x_will_marks_, vi k] [] (ss_m m wr tr t0 (-1) x_forest_ x_will_marks_) Q := by
    intro r
    induction r with
    | zero =>
      intro k wr hr hk h0
      omega
    | succ r ih =>
      intro k wr hr hk h0
      have hm2 : la_ok (ss_m m wr tr t0 (-1) x_forest_ x_will_marks_) := ss_m_ok hm0
      refine la_go_R hm2 13 [24, 47] ?_
      refine And.intro (fun (c21 : 3 ≤ k) => ?_) (fun (c21 : ¬ (3 ≤ k)) => ?_)
      · show cw_R _ _ 47 [vr x_settler_, vi t0, vr x_forest_, vr x_ledger_, vr x_will_marks_, vi 0] [] (ss_m m wr tr t0 (-1) x_forest_ x_will_marks_) _
        exact Se_search47 hm0 hw hle htr ht0 (fun i a b => h0 i a (by omega)) hQ
      · refine And.intro (show 0 ≤ k ∧ k < 3 by omega) ?_
        have hm22 : la_ok (cw_put (ss_m m wr tr t0 (-1) x_forest_ x_will_marks_) x_settler_wrong_ k 0) := la_put hm2 (by decide) (Or.inr (by decide))
        refine And.intro (show -2147483648 ≤ k + 1 ∧ k + 1 < 2147483648 by omega) ?_
        show cw_R _ _ 24 [vr x_settler_, vi t0, vr x_forest_, vr x_ledger_, vr x_will_marks_, vi (k + 1)] [] (cw_put (ss_m m wr tr t0 (-1) x_forest_ x_will_marks_) x_settler_wrong_ k 0) _
        rw [ss_m_pwr]
        have hm23 : la_ok (ss_m m (cw_up wr k 0) tr t0 (-1) x_forest_ x_will_marks_) := ss_m_ok hm0
        refine ih (k + 1) _ (by omega) (by omega) (fun i a b => ?_)
        by_cases e : i = k
        · rw [e, cw_up_eq]
        · rw [cw_up_ne e]; exact h0 i a (by omega)
  exact lp 4 0 wr (by omega) (by omega) (fun i a b => by omega)
theorem Se_search {d : Nat} {m : cw_M} {Q : Option cw_V → cw_M → Prop} (hm0 : la_ok m) (hw : 0 ≤ (m x_forest_ 5) ∧ (m x_forest_ 5) ≤ 6) (hle : ∀ j, 0 ≤ j → j < 6 → 0 ≤ (m x_will_marks_) j ∧ (m x_will_marks_) j ≤ 3) (htr : 0 ≤ m x_forest_ 0 ∧ m x_forest_ 0 ≤ 132) {t0 : Int} (ht0 : 0 ≤ t0 ∧ t0 < 132) (hQ : ∀ wr tr mo, s_w (m x_ledger_got_) t0 (m x_forest_ 0) wr → ((mo = -1 ∧ ∀ mk, ¬ sp_g (m x_will_marks_) wr (m x_forest_above_) (m x_forest_ 5) mk) ∨ s_F (m x_will_marks_) wr (m x_forest_above_) (m x_forest_ 5) mo tr) → Q none (ss_m m wr tr t0 mo x_forest_ x_will_marks_)) : cw_C (d + 7) k_Se_search [vr x_settler_, vi t0, vr x_forest_, vr x_ledger_, vr x_will_marks_] m Q := by
  refine la_go_C0 ss_m_self.symm ?_
  refine la_go_C (ss_m_ok hm0) 17 [24] ?_
  have hm21 : la_ok (cw_put (ss_m m (m x_settler_wrong_) (m x_settler_trial_) (m x_settler_ 0) (m x_settler_ 1) (m x_settler_ 4) (m x_settler_ 5)) x_settler_ 0 t0) := la_put (ss_m_ok hm0) (by decide) (Or.inl rfl)
  have hm22 : la_ok (cw_put (cw_put (ss_m m (m x_settler_wrong_) (m x_settler_trial_) (m x_settler_ 0) (m x_settler_ 1) (m x_settler_ 4) (m x_settler_ 5)) x_settler_ 0 t0) x_settler_ 1 (-1)) := la_put hm21 (by decide) (Or.inl rfl)
  have hm23 : la_ok (cw_put (cw_put (cw_put (ss_m m (m x_settler_wrong_) (m x_settler_trial_) (m x_settler_ 0) (m x_settler_ 1) (m x_settler_ 4) (m x_settler_ 5)) x_settler_ 0 t0) x_settler_ 1 (-1)) x_settler_ 4 x_forest_) := la_put hm22 (by decide) (Or.inl rfl)
  have hm24 : la_ok (cw_put (cw_put (cw_put (cw_put (ss_m m (m x_settler_wrong_) (m x_settler_trial_) (m x_settler_ 0) (m x_settler_ 1) (m x_settler_ 4) (m x_settler_ 5)) x_settler_ 0 t0) x_settler_ 1 (-1)) x_settler_ 4 x_forest_) x_settler_ 5 x_will_marks_) := la_put hm23 (by decide) (Or.inl rfl)
  show cw_R _ _ 24 [vr x_settler_, vi t0, vr x_forest_, vr x_ledger_, vr x_will_marks_, vi 0] [] (cw_put (cw_put (cw_put (cw_put (ss_m m (m x_settler_wrong_) (m x_settler_trial_) (m x_settler_ 0) (m x_settler_ 1) (m x_settler_ 4) (m x_settler_ 5)) x_settler_ 0 t0) x_settler_ 1 (-1)) x_settler_ 4 x_forest_) x_settler_ 5 x_will_marks_) _
  rw [ss_m_fta, ss_m_fmo, ss_m_ffo, ss_m_fle]
  have hm25 : la_ok (ss_m m (m x_settler_wrong_) (m x_settler_trial_) t0 (-1) x_forest_ x_will_marks_) := ss_m_ok hm0
  exact Se_search24 hm0 hw hle htr ht0 hQ
