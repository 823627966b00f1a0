/-! Orders, by the reference (wip/whole/tools/m108.py). -/
theorem K_rU {K : Int → Int} {i v : Int} (h : K_r K) (hi : (0 ≤ i ∧ i < 6 ∧ 0 ≤ v ∧ v ≤ 3) ∨ (6 ≤ i ∧ i < 12 ∧ 0 ≤ v ∧ v ≤ 2) ∨ (12 ≤ i ∧ i < 18 ∧ (v = 0 ∨ v = 1)) ∨ (i = 18 ∧ 0 ≤ v ∧ v ≤ 999)) : K_r (cw_up K i v) := by
  obtain ⟨h1, h2, h3, h4, h5, h6, h7, h8, h9, ha, hb, hc, hd, he, hg, hl⟩ := h
  have n : ∀ j, 19 ≤ j → cw_up K i v j = K j := fun j q => cw_up_ne (by omega)
  refine ⟨by rw [n 46 (by decide)]; exact h1, fun j a b => ?_, fun j a b => ?_, fun j a b => ?_, ?_, fun i a b => by rw [n _ (by omega)]; exact h6 i a b, by rw [n 43 (by decide)]; exact h7, by rw [n 44 (by decide)]; exact h8, by rw [n 45 (by decide)]; exact h9, by rw [n 47 (by decide)]; exact ha, by rw [n 48 (by decide)]; exact hb, by rw [n 49 (by decide)]; exact hc, by rw [n 49 (by decide), n 50 (by decide)]; exact hd, fun i a b => by rw [n _ (by omega)]; exact he i a b, fun i a b => by rw [n _ (by omega), n _ (by omega)]; exact hg i a b, fun j a b => ?_⟩
  · by_cases e : j = i
    · rw [e, cw_up_eq]; omega
    · rw [cw_up_ne e]; exact h2 j a b
  · by_cases e : 6 + j = i
    · rw [e, cw_up_eq]; omega
    · rw [cw_up_ne e]; exact h3 j a b
  · by_cases e : 12 + j = i
    · rw [e, cw_up_eq]; omega
    · rw [cw_up_ne e]; exact h4 j a b
  · by_cases e : 18 = i
    · rw [e, cw_up_eq]; omega
    · rw [cw_up_ne e]; exact h5
  · rw [n 49 (by decide)] at b
    exact L_okc (n _ (by omega)).symm (fun k c d => ⟨(n _ (by omega)).symm, (n _ (by omega)).symm⟩) (hl j a b)
theorem o_ck {K : Int → Int} {h x y : Int} (hK : K_r K) (hh : 0 ≤ h ∧ h ≤ 3) (hc : o_c K h x y = 0) : K_r (o_k K h x y) ∧ ∀ i, (19 ≤ i ∨ i < 0) → o_k K h x y i = K i := by
  have k7 := hK.1
  have ky := hK.2.2.2.2.1
  unfold o_c at hc
  unfold o_k
  by_cases q0 : h = 0
  · rw [if_pos q0] at hc ⊢
    unfold mk_c at hc
    have : (0 ≤ y ∧ y ≤ 3) ∧ 0 ≤ x ∧ x < K 46 - 1 := by revert hc; (repeat' split) <;> omega
    exact ⟨K_rU hK (by omega), fun i a => cw_up_ne (by omega)⟩
  rw [if_neg q0] at hc ⊢
  by_cases q1 : h = 1
  · rw [if_pos q1] at hc ⊢
    unfold tn_c at hc
    have : (0 ≤ y ∧ y ≤ 2) ∧ 0 ≤ x ∧ x < K 46 - 1 := by revert hc; (repeat' split) <;> omega
    exact ⟨K_rU hK (by omega), fun i a => cw_up_ne (by omega)⟩
  rw [if_neg q1] at hc ⊢
  by_cases q2 : h = 2
  · rw [if_pos q2] at hc ⊢
    unfold di_c at hc
    have : 0 ≤ x ∧ x ≤ 5 := by revert hc; (repeat' split) <;> omega
    exact ⟨K_rU hK (by omega), fun i a => cw_up_ne (by omega)⟩
  rw [if_neg q2] at hc ⊢
  unfold pa_c at hc
  have : K 18 ≠ 999 := by revert hc; split <;> omega
  exact ⟨K_rU hK (by omega), fun i a => cw_up_ne (by omega)⟩
theorem o_Er {K : Int → Int} {dn lt : Int} (hK : K_r K) (hd : 0 ≤ dn ∧ dn ≤ 1000) (hl : -1 ≤ lt ∧ lt ≤ 132) : ∀ i, 0 ≤ i → i < 17 → -1000000 ≤ o_E K dn lt i ∧ o_E K dn lt i ≤ 1000000 := by
  intro i a b
  have k1 := hK.2.2.2.2.1
  have k2 := (R_Kr hK).1
  have k3 := l_vnr hK.2.2.2.1
  have k7 := hK.1
  unfold o_E
  by_cases q0 : i = 0
  · rw [if_pos q0]; omega
  rw [if_neg q0]
  by_cases q1 : i = 1
  · rw [if_pos q1]; omega
  rw [if_neg q1]
  by_cases q2 : i = 2
  · rw [if_pos q2]; omega
  rw [if_neg q2]
  by_cases q3 : i = 3
  · rw [if_pos q3]; omega
  rw [if_neg q3]
  by_cases q4 : i = 4
  · rw [if_pos q4]; omega
  rw [if_neg q4]
  by_cases q5 : i < 11
  · rw [if_pos q5]
    by_cases q6 : 0 ≤ i - 5 ∧ i - 5 < K 46 - 1
    · rw [if_pos q6]; have := hK.2.1 (i - 5) (by omega) (by omega); omega
    · rw [if_neg q6]; decide
  · rw [if_neg q5]
    by_cases q6 : 0 ≤ i - 11 ∧ i - 11 < K 46 - 1
    · rw [if_pos q6]; have := hK.2.2.1 (i - 11) (by omega) (by omega); omega
    · rw [if_neg q6]; decide
/-- a state of the run within bounds -/
def O_B (K0 c v : Int → Int) (n : Int) (s : o_S) (B : Int) : Prop := K_r s.1 ∧ (∀ i, 0 ≤ i → i < n → s.1 (58 + (2400 + i)) = c i ∧ s.1 (2858 + (2400 + i)) = v i ∧ 0 ≤ v i) ∧ (0 ≤ s.2.2.1 ∧ s.2.2.1 ≤ B) ∧ (-1 ≤ s.2.2.2 ∧ s.2.2.2 ≤ 132 ∧ ∀ i, (19 ≤ i ∨ i < 0) → s.1 i = K0 i)
theorem O_i {X m : cw_M} {L0 K0 c v : Int → Int} {u0 n B : Int} {s : o_S} (hS : S_R X m L0 u0 s) (hB : O_B K0 c v n s B) (hn : 0 ≤ n ∧ n ≤ 400) (hz : c n = 0) (hb : B ≤ 1000) (hc : ∀ j, 0 ≤ j → j < 7 → m m_catalan_ j = t_c j) : O_h X c v n (o_E s.1 s.2.2.1 s.2.2.2) := by
  have ek : X m_kept_ = s.1 := hS.2.1.1 _ (by decide) (by decide)
  have ec : X m_catalan_ = m m_catalan_ := by rw [hS.2.1.1 _ (by decide) (by decide), st_ne (by decide) (by decide) (by decide)]
  obtain ⟨b1, b2, b3, b4⟩ := hB
  refine ⟨hn, hz, fun i a b => by rw [ek]; exact b2 i a b, o_Er b1 (by omega) ⟨b4.1, b4.2.1⟩, ?_⟩
  unfold Z_o
  rw [ek, ec, hS.2.2.1, hS.2.2.2.1]
  refine ⟨hc, b1.1, b1.2.2.2.1, rfl, rfl, rfl, rfl, rfl, fun k k0 k1 => ?_⟩
  unfold j_m j_k
  rw [ek]
  constructor
  · show (if 5 + k = 0 then _ else _) = _
    rw [if_neg (by omega), if_neg (by omega), if_neg (by omega), if_neg (by omega), if_neg (by omega), if_pos (by omega), show 5 + k - 5 = k by omega]
  · show (if 11 + k = 0 then _ else _) = _
    rw [if_neg (by omega), if_neg (by omega), if_neg (by omega), if_neg (by omega), if_neg (by omega), if_neg (by omega), show 11 + k - 11 = k by omega]
theorem S_RP {X Y m : cw_M} {L0 : Int → Int} {u0 : Int} {s : o_S} (hS : S_R X m L0 u0 s) (hY : la_ok Y) (h : Z_B X Y) : S_R Y m L0 u0 s := ⟨hY, P_st hS.2.1 (P_sZ h), by rw [h.2 27 (by decide) (by decide) (by decide) (by decide) (by decide) (by decide) (by decide) (by decide) (by decide) (by decide)]; exact hS.2.2.1, by rw [h.2 28 (by decide) (by decide) (by decide) (by decide) (by decide) (by decide) (by decide) (by decide) (by decide) (by decide)]; exact hS.2.2.2.1, hS.2.2.2.2⟩
/-- the place of a head among the reference's codes -/
def h_cd (h : Int) : Int := if h = 0 then 20 else if h = 1 then 23 else if h = 2 then 25 else 26
theorem p_oneh {c v : Int → Int} {i l i1 l1 : Int} {K : p_K} (e : p_one c v true i l = .ok (i1, l1, K)) : (0 ≤ K.1 ∧ K.1 ≤ 3) ∧ c i = h_cd K.1 ∧ 1 ≤ K.2.2.2.1 ∧ K.2.2.2.1 ≤ 20 := by
  have pt : ∀ {h2 i l : Int} {A B : p_D}, p_tim c v true h2 A B i l = .ok (i1, l1, K) → K.1 = h2 ∧ 1 ≤ K.2.2.2.1 ∧ K.2.2.2.1 ≤ 20 := fun e => by
    rcases p_timI e with ⟨-, -, q3, q4, e4⟩ | ⟨-, e4⟩
    · rcases p_iftI e4 with ⟨-, T, -, hK⟩ | ⟨-, -, -, hK⟩ <;> rw [hK] <;> exact ⟨rfl, q3, q4⟩
    · rcases p_iftI e4 with ⟨-, T, -, hK⟩ | ⟨-, -, -, hK⟩ <;> rw [hK] <;> exact ⟨rfl, (by decide : (1 : Int) ≤ 1), (by decide : (1 : Int) ≤ 20)⟩
  have hc : ∀ {h2 : Int}, (0 ≤ h2 ∧ h2 ≤ 3) → c i = h_cd h2 → (K.1 = h2 ∧ 1 ≤ K.2.2.2.1 ∧ K.2.2.2.1 ≤ 20) → (0 ≤ K.1 ∧ K.1 ≤ 3) ∧ c i = h_cd K.1 ∧ 1 ≤ K.2.2.2.1 ∧ K.2.2.2.1 ≤ 20 := fun a b d => ⟨by omega, by rw [d.1]; exact b, d.2⟩
  rcases p_oneOi e with ⟨q1, e⟩ | ⟨q1, e⟩ | ⟨q1, i2, l2, A, e2, e6⟩ | ⟨q1, e6⟩
  · obtain ⟨i2, l2, A, i3, l3, B, e2, q2, e5, e6⟩ := p_twoI e
    exact hc (h2 := 0) (by decide) q1 (pt e6)
  · obtain ⟨i2, l2, A, i3, l3, B, e2, q2, e5, e6⟩ := p_twoI e
    exact hc (h2 := 1) (by decide) q1 (pt e6)
  · exact hc (h2 := 2) (by decide) q1 (pt e6)
  · exact hc (h2 := 3) (by decide) q1 (pt e6)
theorem M_obeys {d : Nat} {m : cw_M} {Q : Option cw_V → cw_M → Prop} (hm : la_ok m) (hc : ∀ j, 0 ≤ j → j < 7 → m m_catalan_ j = t_c j) (hK : K_r (m m_kept_)) (hun : 0 ≤ m m_ 44 ∧ m m_ 44 ≤ 16) {hh : Int} (h48 : m m_ 48 = h_cd hh) (hhh : 0 ≤ hh ∧ hh ≤ 3) (h1 : o_c (m m_kept_) hh (s_ml (m m_sums_ 0)) (s_ml (m m_sums_ 1)) = 0 → ∀ M v, la_ok M → 0 ≤ v → P_s (kr_m (kp_m m hh) (o_k (m m_kept_) hh (s_ml (m m_sums_ 0)) (s_ml (m m_sums_ 1)))) M → M m_ 27 = m m_ 27 → M m_ 46 = m m_ 46 → M m_ 28 = (if hh = 0 then ((R_K (o_k (m m_kept_) hh (s_ml (m m_sums_ 0)) (s_ml (m m_sums_ 1)))).length : Int) else m m_ 28) → Q (some (vi v)) M) (h0 : o_c (m m_kept_) hh (s_ml (m m_sums_ 0)) (s_ml (m m_sums_ 1)) < 0 → ∀ M v, v < 0 → la_ok M → P_s m M → Q (some (vi v)) M) : cw_C (d + 11) k_M_obeys [vr m_] m Q := by
  have hq : hh = 0 ∨ hh = 1 ∨ hh = 2 ∨ hh = 3 := by omega
  unfold h_cd at h48
  rcases hq with q | q | q | q
  · exact M_obeys0 hm hc hK.1 hun hK.2.2.2.1 hK.2.2.1 hK.2.2.2.2.1 (by rw [h48, if_pos q]) q h1 h0
  · exact M_obeys1 hm hc hK.1 hun hK.2.2.2.1 hK.2.2.1 hK.2.2.2.2.1 (by rw [h48, if_neg (by omega), if_pos q]) q h1 h0
  · exact M_obeys2 hm hc hK.1 hun hK.2.2.2.1 hK.2.2.1 hK.2.2.2.2.1 (by rw [h48, if_neg (by omega), if_neg (by omega), if_pos q]) q h1 h0
  · exact M_obeys3 hm hc hK.1 hun hK.2.2.2.1 hK.2.2.1 hK.2.2.2.2.1 (by rw [h48, if_neg (by omega), if_neg (by omega), if_neg (by omega)]) q h1 h0
theorem M_along {d : Nat} {X m : cw_M} {Q : Option cw_V → cw_M → Prop} {L0 K0 c v : Int → Int} {u0 n B lv i0 l i1 l1 : Int} {s : o_S} {KK : p_K} (hS : S_R X m L0 u0 s) (hB : O_B K0 c v n s B) (hn : 0 ≤ n ∧ n ≤ 400) (hz : c n = 0) (hb : B ≤ 1000) (hc : ∀ j, 0 ≤ j → j < 7 → m m_catalan_ j = t_c j) (h0 : 0 ≤ i0) (h1 : i0 ≤ n) (hl0 : 0 ≤ l) (hl1 : l ≤ 50) (hlv : lv = 0 ∨ lv = 1) (h46 : X m_ 46 = 2400 + i0) (hp : p_one c v true i0 l = .ok (i1, l1, KK)) (h : ∀ Y, S_R Y m L0 u0 s → Y m_ 46 = 2400 + i0 → Y m_ 22 = 2400 + i1 + 1 → Y m_ 47 = KK.2.2.2.1 → Y m_ 48 = h_cd KK.1 → (Y m_ 49 = 0 ∨ Y m_ 49 = 1) → (Y m_ 50 = 0 ∨ Y m_ 50 = 1) → (lv = 1 → (Y m_ 50 = 1 ↔ k_hd KK.2.2.2.2 (o_E s.1 s.2.2.1 s.2.2.2))) → (lv = 1 → (Y m_ 49 = 1 → (KK.1 ≤ 2 → KK.2.1 (o_E s.1 s.2.2.1 s.2.2.2) = some (Y m_sums_ 0)) ∧ (KK.1 ≤ 1 → KK.2.2.1 (o_E s.1 s.2.2.1 s.2.2.2) = some (Y m_sums_ 1))) ∧ (Y m_ 49 = 0 → (KK.1 ≤ 2 ∧ KK.2.1 (o_E s.1 s.2.2.1 s.2.2.2) = none) ∨ (KK.1 ≤ 1 ∧ KK.2.2.1 (o_E s.1 s.2.2.1 s.2.2.2) = none))) → Q none Y) : cw_C (d + 76) k_M_goesAlong [vr m_, vi (2400 + n), vi lv] X Q := by
  have hO := O_i hS hB hn hz hb hc
  refine la_go_C0 (y_o_self (m := X)).symm ?_
  refine M_goesAlong hS.1 hO h0 h1 hl0 hl1 hlv h46 hp (fun m2 sm2 b2 s2 t2 a1 a2 a3 a4 a5 a6 a7 => ?_)
  have zb : Z_B X (y_o m2 sm2 (2400 + i1 + 1) (2400 + n) b2 1 KK.2.2.2.1 (c i0) s2 t2) := Z_Bt a2 (Z_Bo (m := m2))
  refine h _ (S_RP hS (y_o_ok a1) zb) ?_ rfl rfl ?_ a4 a5 a6 a7
  · rw [zb.2 46 (by decide) (by decide) (by decide) (by decide) (by decide) (by decide) (by decide) (by decide) (by decide) (by decide)]; exact h46
  · show c i0 = _
    exact (p_oneh hp).2.1
theorem o_cc {K : Int → Int} {h x y x' y' : Int} (hh : 0 ≤ h ∧ h ≤ 3) (h1 : h ≤ 2 → x = x') (h2 : h ≤ 1 → y = y') : o_c K h x y = o_c K h x' y' ∧ o_k K h x y = o_k K h x' y' := by
  unfold o_c o_k
  by_cases q0 : h = 0
  · rw [h1 (by omega), h2 (by omega)]; exact ⟨rfl, rfl⟩
  by_cases q1 : h = 1
  · rw [h1 (by omega), h2 (by omega)]; exact ⟨rfl, rfl⟩
  by_cases q2 : h = 2
  · rw [h1 (by omega)]
    refine ⟨?_, ?_⟩ <;> simp only [if_neg q0, if_neg q1, if_pos q2]
  · refine ⟨?_, ?_⟩ <;> simp only [if_neg q0, if_neg q1, if_neg q2]
theorem o_1a {k : p_K} {s : o_S} (h : ¬ k_hd k.2.2.2.2 (o_E s.1 s.2.2.1 s.2.2.2)) : o_1 k s = some s := by unfold o_1; rw [if_neg h]
theorem o_1b {k : p_K} {s : o_S} (h : k_hd k.2.2.2.2 (o_E s.1 s.2.2.1 s.2.2.2)) (hb : (k.1 ≤ 2 ∧ k.2.1 (o_E s.1 s.2.2.1 s.2.2.2) = none) ∨ (k.1 ≤ 1 ∧ k.2.2.1 (o_E s.1 s.2.2.1 s.2.2.2) = none)) : o_1 k s = none := by unfold o_1; rw [if_pos h, if_pos hb]
theorem o_1x {k : p_K} {s : o_S} {a b : Int} (hk : 0 ≤ k.1 ∧ k.1 ≤ 3) (h : k_hd k.2.2.2.2 (o_E s.1 s.2.2.1 s.2.2.2)) (ha : k.1 ≤ 2 → k.2.1 (o_E s.1 s.2.2.1 s.2.2.2) = some a) (hb : k.1 ≤ 1 → k.2.2.1 (o_E s.1 s.2.2.1 s.2.2.2) = some b) : (o_c s.1 k.1 (s_ml a) (s_ml b) < 0 → o_1 k s = none) ∧ (¬ o_c s.1 k.1 (s_ml a) (s_ml b) < 0 → ∃ x, (k.1 ≤ 2 → x = s_ml a) ∧ o_1 k s = some (o_k s.1 k.1 (s_ml a) (s_ml b), s.2.1 ++ [(k.1, x, s.1)], s.2.2.1 + 1, if k.1 = 0 then ((R_K (o_k s.1 k.1 (s_ml a) (s_ml b))).length : Int) else s.2.2.2)) := by
  have e := o_cc (K := s.1) (h := k.1) (x := s_ml ((k.2.1 (o_E s.1 s.2.2.1 s.2.2.2)).getD 0)) (y := s_ml ((k.2.2.1 (o_E s.1 s.2.2.1 s.2.2.2)).getD 0)) (x' := s_ml a) (y' := s_ml b) hk (fun z => by rw [ha z]; rfl) (fun z => by rw [hb z]; rfl)
  have nb : ¬ ((k.1 ≤ 2 ∧ k.2.1 (o_E s.1 s.2.2.1 s.2.2.2) = none) ∨ (k.1 ≤ 1 ∧ k.2.2.1 (o_E s.1 s.2.2.1 s.2.2.2) = none)) := by
    rintro (⟨z, y⟩ | ⟨z, y⟩)
    · rw [ha z] at y; cases y
    · rw [hb z] at y; cases y
  constructor
  · intro q; unfold o_1; rw [if_pos h, if_neg nb, if_pos (by rw [e.1]; exact q)]
  · intro q
    refine ⟨s_ml ((k.2.1 (o_E s.1 s.2.2.1 s.2.2.2)).getD 0), fun z => by rw [ha z]; rfl, ?_⟩
    unfold o_1; rw [if_pos h, if_neg nb, if_neg (by rw [e.1]; exact q), e.2]
theorem o_ts {k : p_K} {n : Nat} {s s' : o_S} (h : o_1 k s = some s') : o_t k (n + 1) s = o_t k n s' := by
  show (match o_1 k s with | none => none | some s' => o_t k n s') = _
  rw [h]
theorem o_tn {k : p_K} {n : Nat} {s : o_S} (h : o_1 k s = none) : o_t k (n + 1) s = none := by
  show (match o_1 k s with | none => none | some s' => o_t k n s') = _
  rw [h]
theorem M_runs19 {d : Nat} {X m : cw_M} {Q : Option cw_V → cw_M → Prop} {L0 K0 c v : Int → Int} {u0 n B0 i0 l i1 l1 bh : Int} {s : o_S} {KK : p_K} {RR : Option o_S} (hn : 0 ≤ n ∧ n ≤ 400) (hz : c n = 0) (hc : ∀ j, 0 ≤ j → j < 7 → m m_catalan_ j = t_c j) (h0 : 0 ≤ i0) (h1 : i0 ≤ n) (hl0 : 0 ≤ l) (hl1 : l ≤ 50) (hp : p_one c v true i0 l = .ok (i1, l1, KK)) (hB0 : 0 ≤ B0 ∧ B0 ≤ 500) (hok : ∀ X s', some s' = RR → S_R X m L0 u0 s' → X m_ 46 = bh → O_B K0 c v n s' (B0 + 20) → Q (some (vi 1)) X) (her : none = RR → ∀ X K L un, la_ok X → P_s (st_m m K L un) X → (∀ i, (19 ≤ i ∨ i < 0) → K i = K0 i) → Q (some (vi 0)) X) (hS : S_R X m L0 u0 s) (x46 : X m_ 46 = 2400 + i0) (hB : O_B K0 c v n s B0) (hR : o_t KK KK.2.2.2.1.toNat s = RR) : cw_R (d + 77) k_M_runs 19 [vr m_, vi (2400 + n), vi KK.2.2.2.1, vi bh, vi 0] [] X Q := by
  have kr := p_oneh hp
  have lp : ∀ (r : Nat) (k : Int) (X : cw_M) (s : o_S), KK.2.2.2.1 < k + r → (0 ≤ k ∧ k ≤ KK.2.2.2.1) → (S_R X m L0 u0 s) → (X m_ 46 = 2400 + i0) → (O_B K0 c v n s (B0 + k)) → (o_t KK (KK.2.2.2.1 - k).toNat s = RR) → cw_R (d + 77) k_M_runs 19 [vr m_, vi (2400 + n), vi KK.2.2.2.1, vi bh, vi k] [] X Q := by
    intro r
    induction r with
    | zero =>
      intro k X s hr hk hS x46 hB hR
      omega
    | succ r ih =>
      intro k X s hr hk hS x46 hB hR
      refine la_go_R hS.1 27 [19] ?_
      refine And.intro (fun (c21 : KK.2.2.2.1 ≤ k) => ?_) (fun (c21 : ¬ (KK.2.2.2.1 ≤ k)) => ?_)
      · have hm22 : la_ok (cw_put X m_ 46 bh) := la_put hS.1 (by decide) (Or.inl rfl)
        refine And.intro (Or.inr rfl) ?_
        show Q (some (vi 1)) (cw_put X m_ 46 bh)
        rw [show (KK.2.2.2.1 - k).toNat = 0 by omega] at hR
        exact hok _ s hR ⟨la_put hS.1 (by decide) (Or.inl rfl), P_st hS.2.1 ⟨fun c a b => cw_put_ne b, fun j a => cw_put_off (U_n a (by decide))⟩, by rw [cw_put_off (by decide)]; exact hS.2.2.1, by rw [cw_put_off (by decide)]; exact hS.2.2.2.1, hS.2.2.2.2⟩ cw_put_eq ⟨hB.1, hB.2.1, by have := hB.2.2.1; omega, hB.2.2.2⟩
      · show cw_C _ _ [vr m_, vi (2400 + n), vi 1] (X) _
        refine M_along hS hB hn hz (by omega) hc h0 h1 hl0 hl1 (by omega) x46 hp (fun (Y : cw_M) (hSY : S_R Y m L0 u0 s) (y46 : Y m_ 46 = 2400 + i0) (y22 : Y m_ 22 = 2400 + i1 + 1) (y47 : Y m_ 47 = KK.2.2.2.1) (y48 : Y m_ 48 = h_cd KK.1) (y49 : Y m_ 49 = 0 ∨ Y m_ 49 = 1) (y50 : Y m_ 50 = 0 ∨ Y m_ 50 = 1) yt ys => ⟨hSY.1, ?_⟩)
        have y27 := hSY.2.2.1
        have hb3 := hB.2.2.1
        have eY : Y m_kept_ = s.1 := hSY.2.1.1 _ (by decide) (by decide)
        have hcY : ∀ j, 0 ≤ j → j < 7 → Y m_catalan_ j = t_c j := fun j a b => by rw [hSY.2.1.1 _ (by decide) (by decide), st_ne (by decide) (by decide) (by decide)]; exact hc j a b
        have hKY : K_r (Y m_kept_) := by rw [eY]; exact hB.1
        have hunY : 0 ≤ Y m_ 44 ∧ Y m_ 44 ≤ 16 := by rw [hSY.2.1.2 44 (by decide), st_u]; exact hSY.2.2.2.2
        refine And.intro (fun (c23 : Y m_ 50 ≠ 0) => ?_) (fun (c23 : ¬ (Y m_ 50 ≠ 0)) => ?_)
        · refine And.intro (fun (c24 : Y m_ 49 = 0) => ?_) (fun (c24 : ¬ (Y m_ 49 = 0)) => ?_)
          · refine And.intro (Or.inl rfl) ?_
            show Q (some (vi 0)) (Y)
            have hd := (yt rfl).mp (by omega)
            have e1 : (KK.2.2.2.1 - k).toNat = (KK.2.2.2.1 - (k + 1)).toNat + 1 := by omega
            have bad := (ys rfl).2 (by omega)
            rw [e1, o_tn (o_1b hd bad)] at hR
            exact her hR Y _ _ _ hSY.1 hSY.2.1 hB.2.2.2.2.2
          · show cw_C _ _ [vr m_] (Y) _
            refine M_obeys hSY.1 hcY hKY hunY y48 kr.1 (fun oc (M : cw_M) (vv : Int) (hM : la_ok M) (hv0 : 0 ≤ vv) hPM (m27 : M m_ 27 = Y m_ 27) (m46 : M m_ 46 = Y m_ 46) m28 => ⟨hM, ?_⟩) (fun oc (M : cw_M) (vv : Int) (hv0 : vv < 0) (hM : la_ok M) hPM => ⟨hM, ?_⟩)
            · refine And.intro (fun (c25 : 0 ≤ vv) => ?_) (fun (c25 : ¬ (0 ≤ vv)) => ?_)
              · refine And.intro (show -2147483648 ≤ (M m_ 27) + 1 ∧ (M m_ 27) + 1 < 2147483648 by omega) ?_
                have hm26 : la_ok (cw_put M m_ 27 ((M m_ 27) + 1)) := la_put hM (by decide) (Or.inl rfl)
                refine And.intro (show -2147483648 ≤ k + 1 ∧ k + 1 < 2147483648 by omega) ?_
                show cw_R _ _ 19 [vr m_, vi (2400 + n), vi KK.2.2.2.1, vi bh, vi (k + 1)] [] (cw_put M m_ 27 ((M m_ 27) + 1)) _
                have hd := (yt rfl).mp (by omega)
                have e1 : (KK.2.2.2.1 - k).toNat = (KK.2.2.2.1 - (k + 1)).toNat + 1 := by omega
                have gd := (ys rfl).1 (by omega)
                have ox := o_1x kr.1 hd gd.1 gd.2
                rw [eY] at oc hPM m28
                obtain ⟨x, -, ex⟩ := ox.2 (by omega)
                rw [e1, o_ts ex] at hR
                have ck := o_ck hB.1 kr.1 oc
                have y28 := hSY.2.2.2.1
                refine ih (k + 1) _ _ (by omega) (by omega) ⟨la_put hM (by decide) (Or.inl rfl), ?_, ?_, ?_, ?_⟩ ?_ ⟨ck.1, fun i a b => ?_, ?_, ?_⟩ hR
                · refine P_st (P_st ?_ hPM) ⟨fun c a b => cw_put_ne b, fun j a => cw_put_off (U_n a (by decide))⟩
                  show P_s (st_m m _ (d_L (s.2.1 ++ [(KK.1, x, s.1)]) L0 u0).1 (d_L (s.2.1 ++ [(KK.1, x, s.1)]) L0 u0).2) _
                  rw [d_La]
                  exact st_op hSY.2.1
                · rw [cw_put_eq, m27, y27]
                · rw [cw_put_off (by decide), m28, y28]
                · show 0 ≤ (d_L (s.2.1 ++ [(KK.1, x, s.1)]) L0 u0).2 ∧ (d_L (s.2.1 ++ [(KK.1, x, s.1)]) L0 u0).2 ≤ 16
                  rw [d_La]
                  exact kp_nr hSY.2.2.2.2
                · rw [cw_put_off (by decide), m46]; exact y46
                · have b2 := hB.2.1 i a b; exact ⟨by rw [← b2.1]; exact ck.2 _ (by omega), by rw [← b2.2.1]; exact ck.2 _ (by omega), b2.2.2⟩
                · have := hB.2.2.1; show 0 ≤ s.2.2.1 + 1 ∧ s.2.2.1 + 1 ≤ _; omega
                · have rr := (R_Kr ck.1).1
                  have b4 := hB.2.2.2
                  refine ⟨?_, ?_, fun i q => ?_⟩
                  · show -1 ≤ (if KK.1 = 0 then _ else _)
                    split <;> omega
                  · show (if KK.1 = 0 then _ else _) ≤ 132
                    split <;> omega
                  · show o_k _ _ _ _ i = _
                    rw [ck.2 i q]; exact b4.2.2 i q
              · refine And.intro (Or.inl rfl) ?_
                show Q (some (vi 0)) (M)
                exfalso; omega
            · refine And.intro (fun (c27 : 0 ≤ vv) => ?_) (fun (c27 : ¬ (0 ≤ vv)) => ?_)
              · refine And.intro (show -2147483648 ≤ (M m_ 27) + 1 ∧ (M m_ 27) + 1 < 2147483648 by omega) ?_
                have hm28 : la_ok (cw_put M m_ 27 ((M m_ 27) + 1)) := la_put hM (by decide) (Or.inl rfl)
                refine And.intro (show -2147483648 ≤ k + 1 ∧ k + 1 < 2147483648 by omega) ?_
                show cw_R _ _ 19 [vr m_, vi (2400 + n), vi KK.2.2.2.1, vi bh, vi (k + 1)] [] (cw_put M m_ 27 ((M m_ 27) + 1)) _
                exfalso; omega
              · refine And.intro (Or.inl rfl) ?_
                show Q (some (vi 0)) (M)
                have hd := (yt rfl).mp (by omega)
                have e1 : (KK.2.2.2.1 - k).toNat = (KK.2.2.2.1 - (k + 1)).toNat + 1 := by omega
                have gd := (ys rfl).1 (by omega)
                have ox := o_1x kr.1 hd gd.1 gd.2
                rw [eY] at oc
                rw [e1, o_tn (ox.1 oc)] at hR
                exact her hR M _ _ _ hM (P_st hSY.2.1 hPM) hB.2.2.2.2.2
        · refine And.intro (show -2147483648 ≤ k + 1 ∧ k + 1 < 2147483648 by omega) ?_
          show cw_R _ _ 19 [vr m_, vi (2400 + n), vi KK.2.2.2.1, vi bh, vi (k + 1)] [] (Y) _
          have e1 : (KK.2.2.2.1 - k).toNat = (KK.2.2.2.1 - (k + 1)).toNat + 1 := by omega
          rw [e1, o_ts (o_1a (fun z => by have := (yt rfl).mpr z; omega))] at hR
          exact ih (k + 1) Y s (by omega) (by omega) hSY y46 ⟨hB.1, hB.2.1, by have := hB.2.2.1; omega, hB.2.2.2⟩ hR
  exact lp 21 0 X s (by omega) (by omega) hS x46 (by rw [Int.add_zero]; exact hB) (by rw [Int.sub_zero]; exact hR)
theorem M_runs {d : Nat} {X m : cw_M} {Q : Option cw_V → cw_M → Prop} {L0 K0 c v : Int → Int} {u0 n B0 i0 l i1 l1 : Int} {s : o_S} {KK : p_K} (hn : 0 ≤ n ∧ n ≤ 400) (hz : c n = 0) (hc : ∀ j, 0 ≤ j → j < 7 → m m_catalan_ j = t_c j) (h0 : 0 ≤ i0) (h1 : i0 ≤ n) (hl0 : 0 ≤ l) (hl1 : l ≤ 50) (hp : p_one c v true i0 l = .ok (i1, l1, KK)) (hB0 : 0 ≤ B0 ∧ B0 ≤ 500) (hS : S_R X m L0 u0 s) (x46 : X m_ 46 = 2400 + i0) (hB : O_B K0 c v n s B0) (hok : ∀ X s', some s' = o_t KK KK.2.2.2.1.toNat s → S_R X m L0 u0 s' → X m_ 46 = 2400 + i1 + 1 → O_B K0 c v n s' (B0 + 20) → Q (some (vi 1)) X) (her : none = o_t KK KK.2.2.2.1.toNat s → ∀ X K L un, la_ok X → P_s (st_m m K L un) X → (∀ i, (19 ≤ i ∨ i < 0) → K i = K0 i) → Q (some (vi 0)) X) : cw_C (d + 77) k_M_runs [vr m_, vi (2400 + n)] X Q := by
  refine la_go_C hS.1 15 [19] ?_
  show cw_C _ _ [vr m_, vi (2400 + n), vi 0] (X) _
  refine M_along hS hB hn hz (by omega) hc h0 h1 hl0 hl1 (by omega) x46 hp (fun (Y : cw_M) (hSY : S_R Y m L0 u0 s) (y46 : Y m_ 46 = 2400 + i0) (y22 : Y m_ 22 = 2400 + i1 + 1) (y47 : Y m_ 47 = KK.2.2.2.1) (y48 : Y m_ 48 = h_cd KK.1) (y49 : Y m_ 49 = 0 ∨ Y m_ 49 = 1) (y50 : Y m_ 50 = 0 ∨ Y m_ 50 = 1) yt ys => ⟨hSY.1, ?_⟩)
  show cw_R _ _ 19 [vr m_, vi (2400 + n), vi (Y m_ 47), vi (Y m_ 22), vi 0] [] (Y) _
  rw [y47, y22]
  exact M_runs19 hn hz hc h0 h1 hl0 hl1 hp hB0 hok her hSY y46 hB rfl
theorem p_restP {c v : Int → Int} {o : Bool} {n : Int} : ∀ {f : Nat} {k i l : Int} {acc Ks : List p_K}, p_rest c v o n f k i l acc = .ok Ks → ∃ rest, Ks = acc ++ rest := by
  intro f
  induction f with
  | zero => intro k i l acc Ks e; cases e
  | succ f ih =>
    intro k i l acc Ks e
    rcases p_restI e with ⟨-, -, i1, l1, K, -, e2⟩ | ⟨-, -, e2⟩
    · obtain ⟨r, hr⟩ := ih e2
      exact ⟨K :: r, by rw [hr, List.append_assoc]; rfl⟩
    · exact ⟨[], by rw [e2, List.append_nil]⟩
theorem o_lc {k : p_K} {t : List p_K} {i : Int} {s s' : o_S} (h : o_t k k.2.2.2.1.toNat s = some s') : o_l (k :: t) i s = o_l t (i + 1) s' := by
  rw [o_l, h]
theorem o_le {k : p_K} {t : List p_K} {i : Int} {s : o_S} (h : o_t k k.2.2.2.1.toNat s = none) : o_l (k :: t) i s = .error i := by
  rw [o_l, h]
