/-! Still more questions, by the reference (wip/whole/tools/m96.py). -/
noncomputable def c_n (P : Int → Prop) : Nat → Int
  | 0 => 0
  | n + 1 => c_n P n + @ite _ (P n) (Classical.propDecidable _) 1 0
theorem c_ns {P : Int → Prop} {k : Int} (hk : 0 ≤ k) : (P k → c_n P k.toNat + 1 = c_n P (k + 1).toNat) ∧ (¬ P k → c_n P k.toNat + 0 = c_n P (k + 1).toNat) := by
  rw [show (k + 1).toNat = k.toNat + 1 by omega]
  constructor
  · intro h
    show _ = c_n P k.toNat + @ite _ (P ((k.toNat : Nat) : Int)) (Classical.propDecidable _) 1 0
    rw [if_pos (by rw [show ((k.toNat : Nat) : Int) = k by omega]; exact h)]
  · intro h
    show _ = c_n P k.toNat + @ite _ (P ((k.toNat : Nat) : Int)) (Classical.propDecidable _) 1 0
    rw [if_neg (by rw [show ((k.toNat : Nat) : Int) = k by omega]; exact h)]
theorem c_nr {P : Int → Prop} : ∀ n : Nat, 0 ≤ c_n P n ∧ c_n P n ≤ n
  | 0 => ⟨Int.le_refl 0, Int.le_refl 0⟩
  | n + 1 => by
    have := c_nr (P := P) n
    show 0 ≤ c_n P n + @ite _ _ (Classical.propDecidable _) 1 0 ∧ c_n P n + @ite _ _ (Classical.propDecidable _) 1 0 ≤ _
    split <;> omega
/-- how many that fit give so much -/
noncomputable def c_al (K : Int → Int) (p x : Int) : Int := c_n (fun i => so_K K i ∧ G_R K i p = x) (R_K K).length
noncomputable def m_al (K : Int → Int) (p : Int) : Nat → Int
  | 0 => 0
  | n + 1 => @ite _ (so_K K n) (Classical.propDecidable _) (max (m_al K p n) (c_al K p (G_R K n p))) (m_al K p n)
theorem m_als {K : Int → Int} {p k : Int} (hk : 0 ≤ k) : (so_K K k → max (m_al K p k.toNat) (c_al K p (G_R K k p)) = m_al K p (k + 1).toNat) ∧ (¬ so_K K k → m_al K p k.toNat = m_al K p (k + 1).toNat) := by
  rw [show (k + 1).toNat = k.toNat + 1 by omega]
  constructor
  · intro h
    show _ = @ite _ (so_K K ((k.toNat : Nat) : Int)) (Classical.propDecidable _) (max (m_al K p k.toNat) (c_al K p (G_R K ((k.toNat : Nat) : Int) p))) (m_al K p k.toNat)
    rw [show ((k.toNat : Nat) : Int) = k by omega, if_pos h]
  · intro h
    show _ = @ite _ (so_K K ((k.toNat : Nat) : Int)) (Classical.propDecidable _) (max (m_al K p k.toNat) (c_al K p (G_R K ((k.toNat : Nat) : Int) p))) (m_al K p k.toNat)
    rw [show ((k.toNat : Nat) : Int) = k by omega, if_neg h]
noncomputable def q_ma (K : Int → Int) (p : Int) : Int := m_al K p (R_K K).length
theorem m_alr {K : Int → Int} {p : Int} : ∀ n : Nat, (0 ≤ m_al K p n ∧ m_al K p n ≤ (R_K K).length) ∧ (∀ k : Int, 0 ≤ k → k < n → so_K K k → c_al K p (G_R K k p) ≤ m_al K p n) ∧ (m_al K p n = 0 ∨ ∃ k : Int, (0 ≤ k ∧ k < n) ∧ so_K K k ∧ c_al K p (G_R K k p) = m_al K p n)
  | 0 => ⟨⟨Int.le_refl 0, by show (0 : Int) ≤ _; omega⟩, fun k a b => by omega, Or.inl rfl⟩
  | n + 1 => by
    obtain ⟨h1, h2, h3⟩ := m_alr (K := K) (p := p) n
    have s := m_als (K := K) (p := p) (k := (n : Int)) (by omega)
    rw [show ((n : Int) + 1).toNat = n + 1 by omega, show ((n : Int)).toNat = n by omega] at s
    have cr := c_nr (P := fun i => so_K K i ∧ G_R K i p = G_R K n p) (R_K K).length
    have cr : 0 ≤ c_al K p (G_R K n p) ∧ c_al K p (G_R K n p) ≤ (R_K K).length := cr
    by_cases q : so_K K n
    · rw [← s.1 q]
      refine ⟨by omega, fun k a b c => ?_, ?_⟩
      · by_cases e : k = n
        · rw [e]; omega
        · have := h2 k a (by omega) c; omega
      · by_cases z : c_al K p (G_R K n p) ≤ m_al K p n
        · rw [show max (m_al K p n) (c_al K p (G_R K n p)) = m_al K p n by omega]
          rcases h3 with h3 | ⟨k, k0, k1, k2⟩
          · exact Or.inl h3
          · exact Or.inr ⟨k, by omega, k1, k2⟩
        · exact Or.inr ⟨n, by omega, q, by omega⟩
    · rw [← s.2 q]
      refine ⟨h1, fun k a b c => ?_, ?_⟩
      · by_cases e : k = n
        · rw [e] at c; exact absurd c q
        · exact h2 k a (by omega) c
      · rcases h3 with h3 | ⟨k, k0, k1, k2⟩
        · exact Or.inl h3
        · exact Or.inr ⟨k, by omega, k1, k2⟩
theorem q_maU {K : Int → Int} {p M : Int} (h0 : 0 ≤ M) (h1 : ∀ k : Int, 0 ≤ k → k < ((R_K K).length : Int) → so_K K k → c_al K p (G_R K k p) ≤ M) (h2 : M = 0 ∨ ∃ k : Int, (0 ≤ k ∧ k < ((R_K K).length : Int)) ∧ so_K K k ∧ c_al K p (G_R K k p) = M) : M = q_ma K p := by
  obtain ⟨g1, g2, g3⟩ := m_alr (K := K) (p := p) (R_K K).length
  have a : M ≤ q_ma K p := by
    rcases h2 with h2 | ⟨k, k0, k1, k2⟩
    · rw [h2]; exact g1.1
    · rw [← k2]; exact g2 k k0.1 k0.2 k1
  have b : q_ma K p ≤ M := by
    rcases g3 with g3 | ⟨k, k0, k1, k2⟩
    · have : q_ma K p = 0 := g3
      omega
    · have : c_al K p (G_R K k p) = q_ma K p := k2
      rw [← this]; exact h1 k k0.1 k0.2 k1
  omega
def a_k (ma : Int → Int) : Nat → Int × Int
  | 0 => (-1, 1000000)
  | n + 1 => if ma n ≠ 0 ∧ ma n < (a_k ma n).2 then ((n : Int), ma n) else a_k ma n
theorem a_ks {ma : Int → Int} {k : Int} (hk : 0 ≤ k) : (ma k ≠ 0 ∧ ma k < (a_k ma k.toNat).2 → a_k ma (k + 1).toNat = (k, ma k)) ∧ (¬ (ma k ≠ 0 ∧ ma k < (a_k ma k.toNat).2) → a_k ma (k + 1).toNat = a_k ma k.toNat) := by
  rw [show (k + 1).toNat = k.toNat + 1 by omega]
  constructor
  · intro h
    show (if ma ((k.toNat : Nat) : Int) ≠ 0 ∧ ma ((k.toNat : Nat) : Int) < (a_k ma k.toNat).2 then (((k.toNat : Nat) : Int), ma ((k.toNat : Nat) : Int)) else a_k ma k.toNat) = _
    rw [show ((k.toNat : Nat) : Int) = k by omega, if_pos h]
  · intro h
    show (if ma ((k.toNat : Nat) : Int) ≠ 0 ∧ ma ((k.toNat : Nat) : Int) < (a_k ma k.toNat).2 then (((k.toNat : Nat) : Int), ma ((k.toNat : Nat) : Int)) else a_k ma k.toNat) = _
    rw [show ((k.toNat : Nat) : Int) = k by omega, if_neg h]
noncomputable def q_ask (K : Int → Int) (w : Int) : Int := if 0 ≤ w ∧ w ≤ 1 then (if (a_k (q_ma K) 6).1 = -1 ∨ w = 0 then (a_k (q_ma K) 6).1 else (a_k (q_ma K) 6).2) else -1
/-- the judges whose reading gives so much -/
def j_p (K : Int → Int) (p x k : Int) : Prop := (0 ≤ K (26 + k) ∧ K (26 + k) < ((R_K K).length : Int)) ∧ G_R K (K (26 + k)) p = x
noncomputable def j_c (K : Int → Int) (p x : Int) : Int := c_n (j_p K p x) (K 47).toNat
def r_q (K : Int → Int) (p k : Int) : Prop := (0 ≤ K (26 + k) ∧ K (26 + k) < ((R_K K).length : Int)) ∧ K 47 < 2 * j_c K p (G_R K (K (26 + k)) p)
noncomputable def r_u (K : Int → Int) (p : Int) : Nat → Int
  | 0 => -1
  | n + 1 => @ite _ (r_q K p n) (Classical.propDecidable _) (G_R K (K (26 + n)) p) (r_u K p n)
theorem r_us {K : Int → Int} {p k : Int} (hk : 0 ≤ k) : (r_q K p k → r_u K p (k + 1).toNat = G_R K (K (26 + k)) p) ∧ (¬ r_q K p k → r_u K p (k + 1).toNat = r_u K p k.toNat) := by
  rw [show (k + 1).toNat = k.toNat + 1 by omega]
  constructor
  · intro h
    show @ite _ (r_q K p ((k.toNat : Nat) : Int)) (Classical.propDecidable _) (G_R K (K (26 + ((k.toNat : Nat) : Int))) p) (r_u K p k.toNat) = _
    rw [show ((k.toNat : Nat) : Int) = k by omega, if_pos h]
  · intro h
    show @ite _ (r_q K p ((k.toNat : Nat) : Int)) (Classical.propDecidable _) (G_R K (K (26 + ((k.toNat : Nat) : Int))) p) (r_u K p k.toNat) = _
    rw [show ((k.toNat : Nat) : Int) = k by omega, if_neg h]
noncomputable def q_rul (K : Int → Int) (p : Int) : Int := if 0 ≤ p ∧ p ≤ 5 then r_u K p (K 47).toNat else -1
/-- the least that those of a set get -/
def lo_n (g : Int → Int) (st b : Int) : Nat → Int
  | 0 => b
  | n + 1 => if cw_iand (cw_ishr st n) 1 = 1 then min (lo_n g st b n) (g n) else lo_n g st b n
theorem lo_ns {g : Int → Int} {st b k : Int} (hk : 0 ≤ k) : (cw_iand (cw_ishr st k) 1 = 1 → min (lo_n g st b k.toNat) (g k) = lo_n g st b (k + 1).toNat) ∧ (cw_iand (cw_ishr st k) 1 ≠ 1 → lo_n g st b k.toNat = lo_n g st b (k + 1).toNat) := by
  rw [show (k + 1).toNat = k.toNat + 1 by omega]
  constructor
  · intro h
    show _ = if cw_iand (cw_ishr st ((k.toNat : Nat) : Int)) 1 = 1 then min (lo_n g st b k.toNat) (g ((k.toNat : Nat) : Int)) else lo_n g st b k.toNat
    rw [show ((k.toNat : Nat) : Int) = k by omega, if_pos h]
  · intro h
    show _ = if cw_iand (cw_ishr st ((k.toNat : Nat) : Int)) 1 = 1 then min (lo_n g st b k.toNat) (g ((k.toNat : Nat) : Int)) else lo_n g st b k.toNat
    rw [show ((k.toNat : Nat) : Int) = k by omega, if_neg h]
noncomputable def q_st (K : Int → Int) : Int := cw_iand (F_K K) (f_msk (fun i => K (19 + i)) 0 (K 46).toNat)
noncomputable def q_fr (K : Int → Int) : Int × Int := r_mx (fun i => lo_n (G_R K i) (q_st K) 1000000 6) (R_K K).length
noncomputable def q_fair (K : Int → Int) (w : Int) : Int := if (0 ≤ w ∧ w ≤ 1) ∧ q_st K ≠ 0 then (if w = 0 then (q_fr K).2 else (q_fr K).1) else -1
theorem M_isSo {d : Nat} {K : Int → Int} {M : cw_M} {Q : Option cw_V → cw_M → Prop} (hq : Q_r K M) {i : Int} (hi : 0 ≤ i ∧ i < ((R_K K).length : Int)) (h1 : so_K K i → Q (some (vi 1)) M) (h0 : ¬ so_K K i → Q (some (vi 0)) M) : cw_C (d + 1) k_M_isSo [vr m_, vi i] M Q := by
  have ek := hq.2.1
  have kr := hq.2.2.1
  have e35 := hq.2.2.2.1
  have rl := hq.2.2.2.2.1
  have k48 := kr.2.2.2.2.2.2.2.2.2.2.1
  have lp : ∀ (r : Nat) (k v : Int), K 48 < k + r → (0 ≤ k ∧ k ≤ K 48) → ((v = 1 ∧ ∀ q, 0 ≤ q → q < k → G_R K i (K (31 + 2 * q)) = K (32 + 2 * q)) ∨ (v = 0 ∧ ∃ q, (0 ≤ q ∧ q < K 48) ∧ ¬ G_R K i (K (31 + 2 * q)) = K (32 + 2 * q))) → cw_R (d + 1) k_M_isSo 4 [vr m_, vi i, vi v, vi k] [] M Q := by
    intro r
    induction r with
    | zero =>
      intro k v hr hk hv
      omega
    | succ r ih =>
      intro k v hr hk hv
      have e1 : M m_kept_ (31 + 2 * k) = K (31 + 2 * k) := by rw [ek]
      have e2 : M m_kept_ (31 + 2 * k + 1) = K (32 + 2 * k) := by rw [ek, show 31 + 2 * k + 1 = 32 + 2 * k by omega]
      have e48 : M m_kept_ 48 = K 48 := by rw [ek]
      have k48 := kr.2.2.2.2.2.2.2.2.2.2.1
      have kk : k < K 48 → (0 ≤ K (31 + 2 * k) ∧ K (31 + 2 * k) < 6) := fun z => (kr.2.2.2.2.2.2.2.2.2.2.2.2.2.2.1 k hk.1 (by omega)).1
      refine la_go_R hq.1 38 [4] ?_
      refine And.intro (show 0 ≤ 48 ∧ 48 < 5658 by omega) ?_
      refine And.intro (fun (c21 : M m_kept_ 48 ≤ k) => ?_) (fun (c21 : ¬ (M m_kept_ 48 ≤ k)) => ?_)
      · refine And.intro (show v = 0 ∨ v = 1 by omega) ?_
        show Q (some (vi v)) (M)
        rcases hv with ⟨v1, hv'⟩ | ⟨v0, q, q0, hq'⟩
        · rw [v1]; exact h1 (fun q a b => hv' q a (by omega))
        · rw [v0]; exact h0 (fun z => hq' (z q q0.1 q0.2))
      · refine And.intro (fun (c22 : v = 0) => ?_) (fun (c22 : ¬ (v = 0)) => ?_)
        · refine And.intro (show -2147483648 ≤ k + 1 ∧ k + 1 < 2147483648 by omega) ?_
          show cw_R _ _ 4 [vr m_, vi i, vi 0, vi (k + 1)] [] (M) _
          rcases hv with ⟨v1, hv'⟩ | ⟨v0, q, q0, hq'⟩
          · first | omega | exact ih (k + 1) 0 (by omega) (by omega) (Or.inr ⟨rfl, k, by omega, by rw [← e1, ← e2]; omega⟩)
          · exact ih (k + 1) 0 (by omega) (by omega) (Or.inr ⟨rfl, q, by omega, hq'⟩)
        · refine And.intro (show -2147483648 ≤ 2 * k ∧ 2 * k < 2147483648 by omega) ?_
          refine And.intro (show -2147483648 ≤ 31 + (2 * k) ∧ 31 + (2 * k) < 2147483648 by omega) ?_
          refine And.intro (show 0 ≤ 31 + (2 * k) ∧ 31 + (2 * k) < 5658 by omega) ?_
          show cw_C _ _ [vr m_, vi i, vi (M m_kept_ (31 + (2 * k)))] (M) _
          refine M_gotQ hq (by omega) (by omega) ⟨hq.1, ?_⟩
          have gr23 := G_Rr (K := K) (i := i) (p := M m_kept_ (31 + (2 * k))) hq.2.2.1
          refine And.intro (show -2147483648 ≤ 2 * k ∧ 2 * k < 2147483648 by omega) ?_
          refine And.intro (show -2147483648 ≤ 31 + (2 * k) ∧ 31 + (2 * k) < 2147483648 by omega) ?_
          refine And.intro (show -2147483648 ≤ (31 + (2 * k)) + 1 ∧ (31 + (2 * k)) + 1 < 2147483648 by omega) ?_
          refine And.intro (show 0 ≤ (31 + (2 * k)) + 1 ∧ (31 + (2 * k)) + 1 < 5658 by omega) ?_
          refine And.intro (fun (c24 : G_R K i (M m_kept_ (31 + (2 * k))) ≠ M m_kept_ ((31 + (2 * k)) + 1)) => ?_) (fun (c24 : ¬ (G_R K i (M m_kept_ (31 + (2 * k))) ≠ M m_kept_ ((31 + (2 * k)) + 1))) => ?_)
          · refine And.intro (show -2147483648 ≤ k + 1 ∧ k + 1 < 2147483648 by omega) ?_
            show cw_R _ _ 4 [vr m_, vi i, vi 0, vi (k + 1)] [] (M) _
            rcases hv with ⟨v1, hv'⟩ | ⟨v0, q, q0, hq'⟩
            · first | omega | exact ih (k + 1) 0 (by omega) (by omega) (Or.inr ⟨rfl, k, by omega, by rw [← e1, ← e2]; omega⟩)
            · exact ih (k + 1) 0 (by omega) (by omega) (Or.inr ⟨rfl, q, by omega, hq'⟩)
          · refine And.intro (show -2147483648 ≤ k + 1 ∧ k + 1 < 2147483648 by omega) ?_
            show cw_R _ _ 4 [vr m_, vi i, vi 1, vi (k + 1)] [] (M) _
            rcases hv with ⟨v1, hv'⟩ | ⟨v0, q, q0, hq'⟩
            · exact ih (k + 1) 1 (by omega) (by omega) (Or.inl ⟨rfl, fun q a b => by
                by_cases e : q = k
                · rw [e, ← e1, ← e2]; omega
                · exact hv' q a (by omega)⟩)
            · omega
  refine la_go_C hq.1 7 [4] ?_
  show cw_R _ _ 4 [vr m_, vi i, vi 1, vi 0] [] (M) _
  exact lp 7 0 1 (by omega) (by omega) (Or.inl ⟨rfl, fun q a b => by omega⟩)
theorem M_fits15 {d : Nat} {K : Int → Int} {M : cw_M} {Q : Option cw_V → cw_M → Prop} (hq : Q_r K M) {i : Int} (hi0 : -1 ≤ i) (h : Q (some (vi (q_fits K i))) M) : cw_R (d + 2) k_M_fits 15 [vr m_, vi i, vi 0, vi 0] [] M Q := by
  have ek := hq.2.1
  have kr := hq.2.2.1
  have e35 := hq.2.2.2.1
  have rl := hq.2.2.2.2.1
  have lp : ∀ (r : Nat) (k : Int), ((R_K K).length : Int) < k + r → (0 ≤ k ∧ k ≤ ((R_K K).length : Int)) → (i = -1 ∨ ((t_rl (so_K K) k.toNat).length : Int) ≤ i) → cw_R (d + 2) k_M_fits 15 [vr m_, vi i, vi ((t_rl (so_K K) k.toNat).length : Int), vi k] [] M Q := by
    intro r
    induction r with
    | zero =>
      intro k hr hk hi
      omega
    | succ r ih =>
      intro k hr hk hi
      have tl := t_rll (P := so_K K) k.toNat
      refine la_go_R hq.1 17 [15] ?_
      refine And.intro (fun (c21 : M m_ 35 ≤ k) => ?_) (fun (c21 : ¬ (M m_ 35 ≤ k)) => ?_)
      · refine And.intro (fun (c22 : i ≠ (-1)) => ?_) (fun (c22 : ¬ (i ≠ (-1))) => ?_)
        · show Q (some (vi (-1))) (M)
          have ef : f_l K = t_rl (so_K K) k.toNat := by unfold f_l; rw [show k.toNat = (R_K K).length by omega]
          have e : q_fits K i = -1 := by unfold q_fits; rw [if_neg (by omega), if_neg (by rw [ef]; omega)]
          rw [e] at h
          exact h
        · show Q (some (vi ((t_rl (so_K K) k.toNat).length : Int))) (M)
          have ef : f_l K = t_rl (so_K K) k.toNat := by unfold f_l; rw [show k.toNat = (R_K K).length by omega]
          have e : q_fits K i = ((t_rl (so_K K) k.toNat).length : Int) := by unfold q_fits; rw [if_pos (by omega), ef]
          rw [e] at h
          exact h
      · show cw_C _ _ [vr m_, vi k] (M) _
        refine M_isSo hq (by omega) (fun (sx : so_K K k) => ⟨hq.1, ?_⟩) (fun (sx : ¬ so_K K k) => ⟨hq.1, ?_⟩)
        · refine br_t (show (1 : Int) ≠ 0 by decide) ?_
          refine And.intro (fun (c23 : ((t_rl (so_K K) k.toNat).length : Int) ≠ i) => ?_) (fun (c23 : ¬ (((t_rl (so_K K) k.toNat).length : Int) ≠ i)) => ?_)
          · refine And.intro (show -2147483648 ≤ ((t_rl (so_K K) k.toNat).length : Int) + 1 ∧ ((t_rl (so_K K) k.toNat).length : Int) + 1 < 2147483648 by omega) ?_
            refine And.intro (show -2147483648 ≤ k + 1 ∧ k + 1 < 2147483648 by omega) ?_
            show cw_R _ _ 15 [vr m_, vi i, vi (((t_rl (so_K K) k.toNat).length : Int) + 1), vi (k + 1)] [] (M) _
            have es := (t_rls (P := so_K K) hk.1).1 sx
            have el : ((t_rl (so_K K) k.toNat).length : Int) + 1 = ((t_rl (so_K K) (k + 1).toNat).length : Int) := by rw [es, List.length_append]; simp
            rw [el]
            exact ih (k + 1) (by omega) (by omega) (by omega)
          · show Q (some (vi k)) (M)
            have es := (t_rls (P := so_K K) hk.1).1 sx
            obtain ⟨l, hl⟩ := t_rlp (P := so_K K) (R_K K).length (k + 1).toNat (by omega)
            have ef : f_l K = t_rl (so_K K) (k + 1).toNat ++ l := hl
            have e : q_fits K i = k := by
              unfold q_fits
              have ll : ((f_l K).length : Int) = (t_rl (so_K K) k.toNat).length + 1 + l.length := by rw [ef, es, List.length_append, List.length_append]; simp
              rw [if_neg (by omega), if_pos (by omega), ef, t_gap (by rw [es, List.length_append]; simp; omega), es, show i = ((t_rl (so_K K) k.toNat).length : Int) by omega, t_g2]
            rw [e] at h
            exact h
        · refine br_f (show ¬ ((0 : Int) ≠ 0) by decide) ?_
          refine And.intro (show -2147483648 ≤ k + 1 ∧ k + 1 < 2147483648 by omega) ?_
          show cw_R _ _ 15 [vr m_, vi i, vi ((t_rl (so_K K) k.toNat).length : Int), vi (k + 1)] [] (M) _
          have es := (t_rls (P := so_K K) hk.1).2 sx
          rw [← es]
          exact ih (k + 1) (by omega) (by omega) (by rw [es]; exact hi)
  exact lp ((R_K K).length + 1) 0 (by omega) (by omega) (by show i = -1 ∨ ((0 : Nat) : Int) ≤ i; omega)
theorem M_fits {d : Nat} {m : cw_M} {Q : Option cw_V → cw_M → Prop} (hm : la_ok m) (hc : ∀ j, 0 ≤ j → j < 7 → m m_catalan_ j = t_c j) (hK : K_r (m m_kept_)) {i : Int} (h : ∀ M, la_ok M → S_f m M → Q (some (vi (q_fits (m m_kept_) i))) M) : cw_C (d + 88) k_M_fits [vr m_, vi i] m Q := by
  refine la_go_C hm 12 [15] ?_
  refine And.intro (fun (c21 : (-1) ≤ i) => ?_) (fun (c21 : ¬ ((-1) ≤ i)) => ?_)
  · show cw_C _ _ [vr m_] (m) _
    refine M_laysAll hm hc hK (fun (M : cw_M) (hM : A_h m M) (hG : ∀ i, 0 ≤ i → i < ((R_K (m m_kept_)).length : Int) → ∀ p, 0 ≤ p → p < 6 → M m_got_ (6 * M m_treeOf_ i + p) = G_R (m m_kept_) i p) => ⟨hM.1, ?_⟩)
    have hq := Q_ri hK hM hG
    have e35 := hM.2.2.1.2.2.1
    have rr := R_Kr hK
    show cw_R _ _ 15 [vr m_, vi i, vi 0, vi 0] [] (M) _
    exact M_fits15 hq (by omega) (h M hM.1 hM.2.1)
  · show Q (some (vi (-1))) (m)
    have e : q_fits (m m_kept_) i = -1 := by unfold q_fits; first | (rw [if_neg (by omega), if_neg (by omega)]; done) | rw [if_neg (by omega)]
    rw [e] at h
    exact h m hm S_fr
theorem M_mostAlike {d : Nat} {K : Int → Int} {M : cw_M} {Q : Option cw_V → cw_M → Prop} (hq : Q_r K M) {p : Int} (hp : 0 ≤ p ∧ p < 6) (h : Q (some (vi (q_ma K p))) M) : cw_C (d + 2) k_M_mostAlike [vr m_, vi p] M Q := by
  have ek := hq.2.1
  have kr := hq.2.2.1
  have e35 := hq.2.2.2.1
  have rl := hq.2.2.2.2.1
  have l4 : ∀ (r : Nat) (k : Int) (w4 w5 : cw_V), ((R_K K).length : Int) < k + r → (0 ≤ k ∧ k ≤ ((R_K K).length : Int)) → cw_R (d + 2) k_M_mostAlike 4 [vr m_, vi p, vi (m_al K p k.toNat), vi k, w4, w5] [] M Q := by
    intro r
    induction r with
    | zero =>
      intro k w4 w5 hr hk
      omega
    | succ r ih4 =>
      intro k w4 w5 hr hk
      have l18 : ∀ (r : Nat) (i : Int), ((R_K K).length : Int) < i + r → (k < ((R_K K).length : Int)) → (0 ≤ i ∧ i ≤ ((R_K K).length : Int)) → cw_R (d + 2) k_M_mostAlike 18 [vr m_, vi p, vi (m_al K p k.toNat), vi k, vi (c_n (fun z => so_K K z ∧ G_R K z p = G_R K k p) i.toNat), vi i] [] M Q := by
        intro r
        induction r with
        | zero =>
          intro i hr hkl hi
          omega
        | succ r ih =>
          intro i hr hkl hi
          have cr := c_nr (P := (fun z => so_K K z ∧ G_R K z p = G_R K k p)) i.toNat
          refine la_go_R hq.1 27 [4, 18] ?_
          refine And.intro (fun (c21 : M m_ 35 ≤ i) => ?_) (fun (c21 : ¬ (M m_ 35 ≤ i)) => ?_)
          · show cw_C _ _ [vr m_, vi k] (M) _
            refine M_isSo hq (by omega) (fun (sx : so_K K k) => ⟨hq.1, ?_⟩) (fun (sx : ¬ so_K K k) => ⟨hq.1, ?_⟩)
            · refine br_f (show ¬ ((1 : Int) = 0) by decide) ?_
              show cw_C _ _ [vi (m_al K p k.toNat), vi (c_n (fun z => so_K K z ∧ G_R K z p = G_R K k p) i.toNat)] (M) _
              refine M_greater ⟨hq.1, ?_⟩
              refine And.intro (show -2147483648 ≤ k + 1 ∧ k + 1 < 2147483648 by omega) ?_
              show cw_R _ _ 4 [vr m_, vi p, vi (max (m_al K p k.toNat) (c_n (fun z => so_K K z ∧ G_R K z p = G_R K k p) i.toNat)), vi (k + 1), vi (c_n (fun z => so_K K z ∧ G_R K z p = G_R K k p) i.toNat), vi i] [] (M) _
              have ec : c_n (fun z => so_K K z ∧ G_R K z p = G_R K k p) i.toNat = c_al K p (G_R K k p) := by unfold c_al; rw [show i.toNat = (R_K K).length by omega]
              rw [ec, (m_als (K := K) (p := p) hk.1).1 sx]
              exact ih4 (k + 1) _ _ (by omega) (by omega)
            · refine br_t (show (0 : Int) = 0 by decide) ?_
              refine And.intro (show -2147483648 ≤ k + 1 ∧ k + 1 < 2147483648 by omega) ?_
              show cw_R _ _ 4 [vr m_, vi p, vi (m_al K p k.toNat), vi (k + 1), vi (c_n (fun z => so_K K z ∧ G_R K z p = G_R K k p) i.toNat), vi i] [] (M) _
              have ec : c_n (fun z => so_K K z ∧ G_R K z p = G_R K k p) i.toNat = c_al K p (G_R K k p) := by unfold c_al; rw [show i.toNat = (R_K K).length by omega]
              rw [(m_als (K := K) (p := p) hk.1).2 sx]
              exact ih4 (k + 1) _ _ (by omega) (by omega)
          · show cw_C _ _ [vr m_, vi i] (M) _
            refine M_isSo hq (by omega) (fun (sx : so_K K i) => ⟨hq.1, ?_⟩) (fun (sx : ¬ so_K K i) => ⟨hq.1, ?_⟩)
            · refine br_f (show ¬ ((1 : Int) = 0) by decide) ?_
              show cw_C _ _ [vr m_, vi i, vi p] (M) _
              refine M_gotQ hq (by omega) (by omega) ⟨hq.1, ?_⟩
              have gr22 := G_Rr (K := K) (i := i) (p := p) hq.2.2.1
              show cw_C _ _ [vr m_, vi k, vi p] (M) _
              refine M_gotQ hq (by omega) (by omega) ⟨hq.1, ?_⟩
              have gr23 := G_Rr (K := K) (i := k) (p := p) hq.2.2.1
              refine And.intro (fun (c24 : G_R K i p ≠ G_R K k p) => ?_) (fun (c24 : ¬ (G_R K i p ≠ G_R K k p)) => ?_)
              · refine And.intro (show -2147483648 ≤ (c_n (fun z => so_K K z ∧ G_R K z p = G_R K k p) i.toNat) + 0 ∧ (c_n (fun z => so_K K z ∧ G_R K z p = G_R K k p) i.toNat) + 0 < 2147483648 by omega) ?_
                refine And.intro (show -2147483648 ≤ i + 1 ∧ i + 1 < 2147483648 by omega) ?_
                show cw_R _ _ 18 [vr m_, vi p, vi (m_al K p k.toNat), vi k, vi ((c_n (fun z => so_K K z ∧ G_R K z p = G_R K k p) i.toNat) + 0), vi (i + 1)] [] (M) _
                rw [(c_ns (P := (fun z => so_K K z ∧ G_R K z p = G_R K k p)) hi.1).2 (by first | exact fun z => sx z.1 | exact fun z => by have := z.2; omega)]
                exact ih (i + 1) (by omega) (by omega) (by omega)
              · refine And.intro (show -2147483648 ≤ (c_n (fun z => so_K K z ∧ G_R K z p = G_R K k p) i.toNat) + 1 ∧ (c_n (fun z => so_K K z ∧ G_R K z p = G_R K k p) i.toNat) + 1 < 2147483648 by omega) ?_
                refine And.intro (show -2147483648 ≤ i + 1 ∧ i + 1 < 2147483648 by omega) ?_
                show cw_R _ _ 18 [vr m_, vi p, vi (m_al K p k.toNat), vi k, vi ((c_n (fun z => so_K K z ∧ G_R K z p = G_R K k p) i.toNat) + 1), vi (i + 1)] [] (M) _
                rw [(c_ns (P := (fun z => so_K K z ∧ G_R K z p = G_R K k p)) hi.1).1 ⟨sx, by omega⟩]
                exact ih (i + 1) (by omega) (by omega) (by omega)
            · refine br_t (show (0 : Int) = 0 by decide) ?_
              refine And.intro (show -2147483648 ≤ (c_n (fun z => so_K K z ∧ G_R K z p = G_R K k p) i.toNat) + 0 ∧ (c_n (fun z => so_K K z ∧ G_R K z p = G_R K k p) i.toNat) + 0 < 2147483648 by omega) ?_
              refine And.intro (show -2147483648 ≤ i + 1 ∧ i + 1 < 2147483648 by omega) ?_
              show cw_R _ _ 18 [vr m_, vi p, vi (m_al K p k.toNat), vi k, vi ((c_n (fun z => so_K K z ∧ G_R K z p = G_R K k p) i.toNat) + 0), vi (i + 1)] [] (M) _
              rw [(c_ns (P := (fun z => so_K K z ∧ G_R K z p = G_R K k p)) hi.1).2 (by first | exact fun z => sx z.1 | exact fun z => by have := z.2; omega)]
              exact ih (i + 1) (by omega) (by omega) (by omega)
      refine la_go_R hq.1 11 [4, 18] ?_
      refine And.intro (fun (c21 : M m_ 35 ≤ k) => ?_) (fun (c21 : ¬ (M m_ 35 ≤ k)) => ?_)
      · show Q (some (vi (m_al K p k.toNat))) (M)
        rw [show k.toNat = (R_K K).length by omega]
        exact h
      · show cw_R _ _ 18 [vr m_, vi p, vi (m_al K p k.toNat), vi k, vi 0, vi 0] [] (M) _
        exact l18 ((R_K K).length + 1) 0 (by omega) (by omega) (by omega)
  refine la_go_C hq.1 7 [4] ?_
  show cw_R _ _ 4 [vr m_, vi p, vi 0, vi 0, none, none] [] (M) _
  exact l4 ((R_K K).length + 1) 0 _ _ (by omega) (by omega)
theorem M_ask23 {d : Nat} {K : Int → Int} {M : cw_M} {Q : Option cw_V → cw_M → Prop} (hq : Q_r K M) {w : Int} (hw : 0 ≤ w ∧ w ≤ 1) (h : Q (some (vi (q_ask K w))) M) {w5 : cw_V} : cw_R (d + 3) k_M_ask 23 [vr m_, vi w, vi (-1), vi 1000000, vi 0, w5] [] M Q := by
  have ek := hq.2.1
  have kr := hq.2.2.1
  have e35 := hq.2.2.2.1
  have rl := hq.2.2.2.2.1
  have lp : ∀ (r : Nat) (p : Int) (w5 : cw_V), 6 < p + r → (0 ≤ p ∧ p ≤ 6) → cw_R (d + 3) k_M_ask 23 [vr m_, vi w, vi ((a_k (q_ma K) p.toNat).1), vi ((a_k (q_ma K) p.toNat).2), vi p, w5] [] M Q := by
    intro r
    induction r with
    | zero =>
      intro p w5 hr hp
      omega
    | succ r ih =>
      intro p w5 hr hp
      refine la_go_R hq.1 21 [23] ?_
      refine And.intro (fun (c21 : 6 ≤ p) => ?_) (fun (c21 : ¬ (6 ≤ p)) => ?_)
      · refine And.intro (fun (c22 : (a_k (q_ma K) p.toNat).1 = (-1)) => ?_) (fun (c22 : ¬ ((a_k (q_ma K) p.toNat).1 = (-1))) => ?_)
        · show Q (some (vi ((a_k (q_ma K) p.toNat).1))) (M)
          have e6 : p.toNat = 6 := by omega
          rw [e6]
          have e : q_ask K w = (a_k (q_ma K) 6).1 := by unfold q_ask; rw [if_pos hw, if_pos (by rw [← e6]; omega)]
          rw [e] at h
          exact h
        · refine And.intro (fun (c23 : w ≠ 0) => ?_) (fun (c23 : ¬ (w ≠ 0)) => ?_)
          · show Q (some (vi ((a_k (q_ma K) p.toNat).2))) (M)
            have e6 : p.toNat = 6 := by omega
            rw [e6]
            have e : q_ask K w = (a_k (q_ma K) 6).2 := by unfold q_ask; rw [if_pos hw, if_neg (by rw [← e6]; omega)]
            rw [e] at h
            exact h
          · show Q (some (vi ((a_k (q_ma K) p.toNat).1))) (M)
            have e6 : p.toNat = 6 := by omega
            rw [e6]
            have e : q_ask K w = (a_k (q_ma K) 6).1 := by unfold q_ask; rw [if_pos hw, if_pos (by rw [← e6]; omega)]
            rw [e] at h
            exact h
      · show cw_C _ _ [vr m_, vi p] (M) _
        refine M_mostAlike hq (by omega) ⟨hq.1, ?_⟩
        refine And.intro (fun (c24 : q_ma K p = 0) => ?_) (fun (c24 : ¬ (q_ma K p = 0)) => ?_)
        · refine And.intro (show -2147483648 ≤ p + 1 ∧ p + 1 < 2147483648 by omega) ?_
          show cw_R _ _ 23 [vr m_, vi w, vi ((a_k (q_ma K) p.toNat).1), vi ((a_k (q_ma K) p.toNat).2), vi (p + 1), vi (q_ma K p)] [] (M) _
          have e := (a_ks (ma := q_ma K) hp.1).2 (by omega)
          rw [← e]
          exact ih (p + 1) _ (by omega) (by omega)
        · refine And.intro (fun (c25 : q_ma K p < (a_k (q_ma K) p.toNat).2) => ?_) (fun (c25 : ¬ (q_ma K p < (a_k (q_ma K) p.toNat).2)) => ?_)
          · refine And.intro (show -2147483648 ≤ p + 1 ∧ p + 1 < 2147483648 by omega) ?_
            show cw_R _ _ 23 [vr m_, vi w, vi p, vi (q_ma K p), vi (p + 1), vi (q_ma K p)] [] (M) _
            have e := (a_ks (ma := q_ma K) hp.1).1 (by omega)
            have i1 := ih (p + 1)
            rw [e] at i1
            exact i1 _ (by omega) (by omega)
          · refine And.intro (show -2147483648 ≤ p + 1 ∧ p + 1 < 2147483648 by omega) ?_
            show cw_R _ _ 23 [vr m_, vi w, vi ((a_k (q_ma K) p.toNat).1), vi ((a_k (q_ma K) p.toNat).2), vi (p + 1), vi (q_ma K p)] [] (M) _
            have e := (a_ks (ma := q_ma K) hp.1).2 (by omega)
            rw [← e]
            exact ih (p + 1) _ (by omega) (by omega)
  exact lp 7 0 w5 (by omega) (by omega)
theorem M_ask {d : Nat} {m : cw_M} {Q : Option cw_V → cw_M → Prop} (hm : la_ok m) (hc : ∀ j, 0 ≤ j → j < 7 → m m_catalan_ j = t_c j) (hK : K_r (m m_kept_)) {w : Int} (h : ∀ M, la_ok M → S_f m M → Q (some (vi (q_ask (m m_kept_) w))) M) : cw_C (d + 88) k_M_ask [vr m_, vi w] m Q := by
  refine la_go_C hm 16 [23] ?_
  show cw_C _ _ [vi w, vi 0, vi 1] (m) _
  refine M_lies (fun (a21 : 0 ≤ w) (a22 : w ≤ 1) => ⟨hm, ?_⟩) (fun (a23 : ¬ (0 ≤ w ∧ w ≤ 1)) => ⟨hm, ?_⟩)
  · refine br_t (show (1 : Int) ≠ 0 by decide) ?_
    show cw_C _ _ [vr m_] (m) _
    refine M_laysAll hm hc hK (fun (M : cw_M) (hM : A_h m M) (hG : ∀ i, 0 ≤ i → i < ((R_K (m m_kept_)).length : Int) → ∀ p, 0 ≤ p → p < 6 → M m_got_ (6 * M m_treeOf_ i + p) = G_R (m m_kept_) i p) => ⟨hM.1, ?_⟩)
    have hq := Q_ri hK hM hG
    have e35 := hM.2.2.1.2.2.1
    have rr := R_Kr hK
    show cw_R _ _ 23 [vr m_, vi w, vi (-1), vi 1000000, vi 0, none] [] (M) _
    exact M_ask23 hq (by omega) (h M hM.1 hM.2.1)
  · refine br_f (show ¬ ((0 : Int) ≠ 0) by decide) ?_
    show Q (some (vi (-1))) (m)
    have e : q_ask (m m_kept_) w = -1 := by unfold q_ask; first | (rw [if_neg (by omega), if_neg (by omega)]; done) | rw [if_neg (by omega)]
    rw [e] at h
    exact h m hm S_fr
theorem M_judgesFor {d : Nat} {K : Int → Int} {M : cw_M} {Q : Option cw_V → cw_M → Prop} (hq : Q_r K M) {p x : Int} (hp : 0 ≤ p ∧ p < 6) (h : Q (some (vi (j_c K p x))) M) : cw_C (d + 2) k_M_judgesFor [vr m_, vi p, vi x] M Q := by
  have ek := hq.2.1
  have kr := hq.2.2.1
  have e35 := hq.2.2.2.1
  have rl := hq.2.2.2.2.1
  have k47 := kr.2.2.2.2.2.2.2.2.2.1
  have lp : ∀ (r : Nat) (k : Int), K 47 < k + r → (0 ≤ k ∧ k ≤ K 47) → cw_R (d + 2) k_M_judgesFor 5 [vr m_, vi p, vi x, vi (c_n (j_p K p x) k.toNat), vi k] [] M Q := by
    intro r
    induction r with
    | zero =>
      intro k hr hk
      omega
    | succ r ih =>
      intro k hr hk
      have e1 : M m_kept_ (26 + k) = K (26 + k) := by rw [ek]
      have e47 : M m_kept_ 47 = K 47 := by rw [ek]
      have k47 := kr.2.2.2.2.2.2.2.2.2.1
      have cr := c_nr (P := (j_p K p x)) k.toNat
      refine la_go_R hq.1 36 [5] ?_
      refine And.intro (show 0 ≤ 47 ∧ 47 < 5658 by omega) ?_
      refine And.intro (fun (c21 : M m_kept_ 47 ≤ k) => ?_) (fun (c21 : ¬ (M m_kept_ 47 ≤ k)) => ?_)
      · show Q (some (vi (c_n (j_p K p x) k.toNat))) (M)
        rw [show k.toNat = (K 47).toNat by omega]
        exact h
      · refine And.intro (show -2147483648 ≤ 26 + k ∧ 26 + k < 2147483648 by omega) ?_
        refine And.intro (show 0 ≤ 26 + k ∧ 26 + k < 5658 by omega) ?_
        show cw_C _ _ [vr m_, vi (M m_kept_ (26 + k))] (M) _
        refine M_isNumber hq.1 (by omega) (fun (n0 : 0 ≤ M m_kept_ (26 + k)) (n1 : M m_kept_ (26 + k) < M m_ 35) => ⟨hq.1, ?_⟩) (fun (n0 : ¬ (0 ≤ M m_kept_ (26 + k) ∧ M m_kept_ (26 + k) < M m_ 35)) => ⟨hq.1, ?_⟩)
        · refine br_f (show ¬ ((1 : Int) = 0) by decide) ?_
          refine And.intro (show -2147483648 ≤ 26 + k ∧ 26 + k < 2147483648 by omega) ?_
          refine And.intro (show 0 ≤ 26 + k ∧ 26 + k < 5658 by omega) ?_
          show cw_C _ _ [vr m_, vi (M m_kept_ (26 + k)), vi p] (M) _
          refine M_gotQ hq (by omega) (by omega) ⟨hq.1, ?_⟩
          have gr22 := G_Rr (K := K) (i := M m_kept_ (26 + k)) (p := p) hq.2.2.1
          refine And.intro (fun (c23 : G_R K (M m_kept_ (26 + k)) p ≠ x) => ?_) (fun (c23 : ¬ (G_R K (M m_kept_ (26 + k)) p ≠ x)) => ?_)
          · refine And.intro (show -2147483648 ≤ (c_n (j_p K p x) k.toNat) + 0 ∧ (c_n (j_p K p x) k.toNat) + 0 < 2147483648 by omega) ?_
            refine And.intro (show -2147483648 ≤ k + 1 ∧ k + 1 < 2147483648 by omega) ?_
            show cw_R _ _ 5 [vr m_, vi p, vi x, vi ((c_n (j_p K p x) k.toNat) + 0), vi (k + 1)] [] (M) _
            rw [(c_ns (P := (j_p K p x)) hk.1).2 (fun z => by have z1 := z.1; have z2 := z.2; rw [← e1] at z1 z2; omega)]
            exact ih (k + 1) (by omega) (by omega)
          · refine And.intro (show -2147483648 ≤ (c_n (j_p K p x) k.toNat) + 1 ∧ (c_n (j_p K p x) k.toNat) + 1 < 2147483648 by omega) ?_
            refine And.intro (show -2147483648 ≤ k + 1 ∧ k + 1 < 2147483648 by omega) ?_
            show cw_R _ _ 5 [vr m_, vi p, vi x, vi ((c_n (j_p K p x) k.toNat) + 1), vi (k + 1)] [] (M) _
            rw [(c_ns (P := (j_p K p x)) hk.1).1 ⟨by omega, by rw [← e1]; omega⟩]
            exact ih (k + 1) (by omega) (by omega)
        · refine br_t (show (0 : Int) = 0 by decide) ?_
          refine And.intro (show -2147483648 ≤ (c_n (j_p K p x) k.toNat) + 0 ∧ (c_n (j_p K p x) k.toNat) + 0 < 2147483648 by omega) ?_
          refine And.intro (show -2147483648 ≤ k + 1 ∧ k + 1 < 2147483648 by omega) ?_
          show cw_R _ _ 5 [vr m_, vi p, vi x, vi ((c_n (j_p K p x) k.toNat) + 0), vi (k + 1)] [] (M) _
          rw [(c_ns (P := (j_p K p x)) hk.1).2 (fun z => by have z1 := z.1; have z2 := z.2; rw [← e1] at z1 z2; omega)]
          exact ih (k + 1) (by omega) (by omega)
  refine la_go_C hq.1 7 [5] ?_
  show cw_R _ _ 5 [vr m_, vi p, vi x, vi 0, vi 0] [] (M) _
  exact lp 6 0 (by omega) (by omega)
theorem M_ruled17 {d : Nat} {K : Int → Int} {M : cw_M} {Q : Option cw_V → cw_M → Prop} (hq : Q_r K M) {p : Int} (hp : 0 ≤ p ∧ p < 6) (h : Q (some (vi (q_rul K p))) M) {w4 : cw_V} : cw_R (d + 3) k_M_ruled 17 [vr m_, vi p, vi (-1), vi 0, w4] [] M Q := by
  have ek := hq.2.1
  have kr := hq.2.2.1
  have e35 := hq.2.2.2.1
  have rl := hq.2.2.2.2.1
  have k47 := kr.2.2.2.2.2.2.2.2.2.1
  have lp : ∀ (r : Nat) (k : Int) (w4 : cw_V), K 47 < k + r → (0 ≤ k ∧ k ≤ K 47) → cw_R (d + 3) k_M_ruled 17 [vr m_, vi p, vi (r_u K p k.toNat), vi k, w4] [] M Q := by
    intro r
    induction r with
    | zero =>
      intro k w4 hr hk
      omega
    | succ r ih =>
      intro k w4 hr hk
      have e1 : M m_kept_ (26 + k) = K (26 + k) := by rw [ek]
      have e47 : M m_kept_ 47 = K 47 := by rw [ek]
      have k47 := kr.2.2.2.2.2.2.2.2.2.1
      refine la_go_R hq.1 44 [17] ?_
      refine And.intro (show 0 ≤ 47 ∧ 47 < 5658 by omega) ?_
      refine And.intro (fun (c21 : M m_kept_ 47 ≤ k) => ?_) (fun (c21 : ¬ (M m_kept_ 47 ≤ k)) => ?_)
      · show Q (some (vi (r_u K p k.toNat))) (M)
        have e : q_rul K p = r_u K p k.toNat := by unfold q_rul; rw [if_pos (by omega), show k.toNat = (K 47).toNat by omega]
        rw [e] at h
        exact h
      · refine And.intro (show -2147483648 ≤ 26 + k ∧ 26 + k < 2147483648 by omega) ?_
        refine And.intro (show 0 ≤ 26 + k ∧ 26 + k < 5658 by omega) ?_
        show cw_C _ _ [vr m_, vi (M m_kept_ (26 + k))] (M) _
        refine M_isNumber hq.1 (by omega) (fun (n0 : 0 ≤ M m_kept_ (26 + k)) (n1 : M m_kept_ (26 + k) < M m_ 35) => ⟨hq.1, ?_⟩) (fun (n0 : ¬ (0 ≤ M m_kept_ (26 + k) ∧ M m_kept_ (26 + k) < M m_ 35)) => ⟨hq.1, ?_⟩)
        · refine br_t (show (1 : Int) ≠ 0 by decide) ?_
          refine And.intro (show -2147483648 ≤ 26 + k ∧ 26 + k < 2147483648 by omega) ?_
          refine And.intro (show 0 ≤ 26 + k ∧ 26 + k < 5658 by omega) ?_
          show cw_C _ _ [vr m_, vi (M m_kept_ (26 + k)), vi p] (M) _
          refine M_gotQ hq (by omega) (by omega) ⟨hq.1, ?_⟩
          have gr22 := G_Rr (K := K) (i := M m_kept_ (26 + k)) (p := p) hq.2.2.1
          show cw_C _ _ [vr m_, vi p, vi (G_R K (M m_kept_ (26 + k)) p)] (M) _
          refine M_judgesFor hq (by omega) ⟨hq.1, ?_⟩
          have jr := c_nr (P := j_p K p (G_R K (M m_kept_ (26 + k)) p)) (K 47).toNat
          have jr : 0 ≤ j_c K p (G_R K (M m_kept_ (26 + k)) p) ∧ j_c K p (G_R K (M m_kept_ (26 + k)) p) ≤ (K 47).toNat := jr
          refine And.intro (show -2147483648 ≤ 2 * (j_c K p (G_R K (M m_kept_ (26 + k)) p)) ∧ 2 * (j_c K p (G_R K (M m_kept_ (26 + k)) p)) < 2147483648 by omega) ?_
          refine And.intro (show 0 ≤ 47 ∧ 47 < 5658 by omega) ?_
          refine And.intro (fun (c23 : 2 * (j_c K p (G_R K (M m_kept_ (26 + k)) p)) ≤ M m_kept_ 47) => ?_) (fun (c23 : ¬ (2 * (j_c K p (G_R K (M m_kept_ (26 + k)) p)) ≤ M m_kept_ 47)) => ?_)
          · refine And.intro (show -2147483648 ≤ k + 1 ∧ k + 1 < 2147483648 by omega) ?_
            show cw_R _ _ 17 [vr m_, vi p, vi (r_u K p k.toNat), vi (k + 1), vi (G_R K (M m_kept_ (26 + k)) p)] [] (M) _
            have eq := (r_us (K := K) (p := p) hk.1).2 (fun z => by have z1 := z.1; have z2 := z.2; rw [← e1] at z1 z2; omega)
            rw [← eq]
            exact ih (k + 1) _ (by omega) (by omega)
          · refine And.intro (show -2147483648 ≤ k + 1 ∧ k + 1 < 2147483648 by omega) ?_
            show cw_R _ _ 17 [vr m_, vi p, vi (G_R K (M m_kept_ (26 + k)) p), vi (k + 1), vi (G_R K (M m_kept_ (26 + k)) p)] [] (M) _
            have eq := (r_us (K := K) (p := p) hk.1).1 ⟨by omega, by rw [← e1]; omega⟩
            rw [e1, ← eq]
            exact ih (k + 1) _ (by omega) (by omega)
        · refine br_f (show ¬ ((0 : Int) ≠ 0) by decide) ?_
          refine And.intro (show -2147483648 ≤ k + 1 ∧ k + 1 < 2147483648 by omega) ?_
          show cw_R _ _ 17 [vr m_, vi p, vi (r_u K p k.toNat), vi (k + 1), w4] [] (M) _
          have eq := (r_us (K := K) (p := p) hk.1).2 (fun z => by have z1 := z.1; have z2 := z.2; rw [← e1] at z1 z2; omega)
          rw [← eq]
          exact ih (k + 1) _ (by omega) (by omega)
  exact lp 6 0 w4 (by omega) (by omega)
theorem M_ruled {d : Nat} {m : cw_M} {Q : Option cw_V → cw_M → Prop} (hm : la_ok m) (hc : ∀ j, 0 ≤ j → j < 7 → m m_catalan_ j = t_c j) (hK : K_r (m m_kept_)) {p : Int} (h : ∀ M, la_ok M → S_f m M → Q (some (vi (q_rul (m m_kept_) p))) M) : cw_C (d + 88) k_M_ruled [vr m_, vi p] m Q := by
  refine la_go_C hm 12 [17] ?_
  show cw_C _ _ [vi p] (m) _
  refine M_isPerson (fun (p0 : 0 ≤ p) (p1 : p ≤ 5) => ⟨hm, ?_⟩) (fun (p0 : ¬ (0 ≤ p ∧ p ≤ 5)) => ⟨hm, ?_⟩)
  · refine br_t (show (1 : Int) ≠ 0 by decide) ?_
    show cw_C _ _ [vr m_] (m) _
    refine M_laysAll hm hc hK (fun (M : cw_M) (hM : A_h m M) (hG : ∀ i, 0 ≤ i → i < ((R_K (m m_kept_)).length : Int) → ∀ p, 0 ≤ p → p < 6 → M m_got_ (6 * M m_treeOf_ i + p) = G_R (m m_kept_) i p) => ⟨hM.1, ?_⟩)
    have hq := Q_ri hK hM hG
    have e35 := hM.2.2.1.2.2.1
    have rr := R_Kr hK
    show cw_R _ _ 17 [vr m_, vi p, vi (-1), vi 0, none] [] (M) _
    exact M_ruled17 hq (by omega) (h M hM.1 hM.2.1)
  · refine br_f (show ¬ ((0 : Int) ≠ 0) by decide) ?_
    show Q (some (vi (-1))) (m)
    have e : q_rul (m m_kept_) p = -1 := by unfold q_rul; first | (rw [if_neg (by omega), if_neg (by omega)]; done) | rw [if_neg (by omega)]
    rw [e] at h
    exact h m hm S_fr
theorem M_leastOf {d : Nat} {K : Int → Int} {M : cw_M} {Q : Option cw_V → cw_M → Prop} (hq : Q_r K M) {i st : Int} (hi : 0 ≤ i ∧ i < ((R_K K).length : Int)) (h : Q (some (vi (lo_n (G_R K i) st 1000000 6))) M) : cw_C (d + 1) k_M_leastOf [vr m_, vi i, vi st] M Q := by
  have ek := hq.2.1
  have kr := hq.2.2.1
  have e35 := hq.2.2.2.1
  have rl := hq.2.2.2.2.1
  have lp : ∀ (r : Nat) (p : Int), 6 < p + r → (0 ≤ p ∧ p ≤ 6) → cw_R (d + 1) k_M_leastOf 6 [vr m_, vi i, vi st, vi (lo_n (G_R K i) st 1000000 p.toNat), vi p] [] M Q := by
    intro r
    induction r with
    | zero =>
      intro p hr hp
      omega
    | succ r ih =>
      intro p hr hp
      refine la_go_R hq.1 19 [6] ?_
      refine And.intro (fun (c21 : 6 ≤ p) => ?_) (fun (c21 : ¬ (6 ≤ p)) => ?_)
      · show Q (some (vi (lo_n (G_R K i) st 1000000 p.toNat))) (M)
        rw [show p.toNat = 6 by omega]
        exact h
      · show cw_C _ _ [vi st, vi p] (M) _
        refine M_isIn hq.1 (fun (ix : cw_iand (cw_ishr st p) 1 = 1) => ⟨hq.1, ?_⟩) (fun (ix : cw_iand (cw_ishr st p) 1 ≠ 1) => ⟨hq.1, ?_⟩)
        · refine br_f (show ¬ ((1 : Int) = 0) by decide) ?_
          show cw_C _ _ [vr m_, vi i, vi p] (M) _
          refine M_gotQ hq (by omega) (by omega) ⟨hq.1, ?_⟩
          have gr22 := G_Rr (K := K) (i := i) (p := p) hq.2.2.1
          show cw_C _ _ [vi (lo_n (G_R K i) st 1000000 p.toNat), vi (G_R K i p)] (M) _
          refine M_lesser ⟨hq.1, ?_⟩
          refine And.intro (show -2147483648 ≤ p + 1 ∧ p + 1 < 2147483648 by omega) ?_
          show cw_R _ _ 6 [vr m_, vi i, vi st, vi (min (lo_n (G_R K i) st 1000000 p.toNat) (G_R K i p)), vi (p + 1)] [] (M) _
          rw [(lo_ns (g := G_R K i) (st := st) (b := 1000000) hp.1).1 ix]
          exact ih (p + 1) (by omega) (by omega)
        · refine br_t (show (0 : Int) = 0 by decide) ?_
          refine And.intro (show -2147483648 ≤ p + 1 ∧ p + 1 < 2147483648 by omega) ?_
          show cw_R _ _ 6 [vr m_, vi i, vi st, vi (lo_n (G_R K i) st 1000000 p.toNat), vi (p + 1)] [] (M) _
          rw [(lo_ns (g := G_R K i) (st := st) (b := 1000000) hp.1).2 ix]
          exact ih (p + 1) (by omega) (by omega)
  refine la_go_C hq.1 7 [6] ?_
  show cw_R _ _ 6 [vr m_, vi i, vi st, vi 1000000, vi 0] [] (M) _
  exact lp 7 0 (by omega) (by omega)
theorem M_fair40 {d : Nat} {K : Int → Int} {M : cw_M} {Q : Option cw_V → cw_M → Prop} (hq : Q_r K M) {w : Int} (hw : 0 ≤ w ∧ w ≤ 1) (h : Q (some (vi (q_fair K w))) M) {w6 : cw_V} : cw_R (d + 2) k_M_fair 40 [vr m_, vi w, vi (q_st K), vi (-1), vi (-1), vi 0, w6] [] M Q := by
  have ek := hq.2.1
  have kr := hq.2.2.1
  have e35 := hq.2.2.2.1
  have rl := hq.2.2.2.2.1
  have lp : ∀ (r : Nat) (k : Int) (w6 : cw_V), ((R_K K).length : Int) < k + r → (0 ≤ k ∧ k ≤ ((R_K K).length : Int)) → (q_st K = 0 → k = 0) → cw_R (d + 2) k_M_fair 40 [vr m_, vi w, vi (q_st K), vi ((r_mx (fun i => lo_n (G_R K i) (q_st K) 1000000 6) k.toNat).2), vi ((r_mx (fun i => lo_n (G_R K i) (q_st K) 1000000 6) k.toNat).1), vi k, w6] [] M Q := by
    intro r
    induction r with
    | zero =>
      intro k w6 hr hk hz
      omega
    | succ r ih =>
      intro k w6 hr hk hz
      refine la_go_R hq.1 23 [40] ?_
      refine And.intro (fun (c21 : M m_ 35 ≤ k) => ?_) (fun (c21 : ¬ (M m_ 35 ≤ k)) => ?_)
      · refine And.intro (fun (c22 : w ≠ 0) => ?_) (fun (c22 : ¬ (w ≠ 0)) => ?_)
        · show Q (some (vi ((r_mx (fun i => lo_n (G_R K i) (q_st K) 1000000 6) k.toNat).1))) (M)
          by_cases z : q_st K = 0
          · have e : q_fair K w = -1 := by unfold q_fair; rw [if_neg (fun y => y.2 z)]
            rw [show k = 0 from hz z]
            rw [e] at h
            exact h
          · have e : q_fair K w = (r_mx (fun i => lo_n (G_R K i) (q_st K) 1000000 6) k.toNat).1 := by unfold q_fair q_fr; rw [if_pos ⟨hw, z⟩, if_neg (by omega), show k.toNat = (R_K K).length by omega]
            rw [e] at h
            exact h
        · show Q (some (vi ((r_mx (fun i => lo_n (G_R K i) (q_st K) 1000000 6) k.toNat).2))) (M)
          by_cases z : q_st K = 0
          · have e : q_fair K w = -1 := by unfold q_fair; rw [if_neg (fun y => y.2 z)]
            rw [show k = 0 from hz z]
            rw [e] at h
            exact h
          · have e : q_fair K w = (r_mx (fun i => lo_n (G_R K i) (q_st K) 1000000 6) k.toNat).2 := by unfold q_fair q_fr; rw [if_pos ⟨hw, z⟩, if_pos (by omega), show k.toNat = (R_K K).length by omega]
            rw [e] at h
            exact h
      · refine And.intro (fun (c23 : q_st K = 0) => ?_) (fun (c23 : ¬ (q_st K = 0)) => ?_)
        · refine And.intro (fun (c24 : w ≠ 0) => ?_) (fun (c24 : ¬ (w ≠ 0)) => ?_)
          · show Q (some (vi ((r_mx (fun i => lo_n (G_R K i) (q_st K) 1000000 6) k.toNat).1))) (M)
            by_cases z : q_st K = 0
            · have e : q_fair K w = -1 := by unfold q_fair; rw [if_neg (fun y => y.2 z)]
              rw [show k = 0 from hz z]
              rw [e] at h
              exact h
            · have e : q_fair K w = (r_mx (fun i => lo_n (G_R K i) (q_st K) 1000000 6) k.toNat).1 := by unfold q_fair q_fr; rw [if_pos ⟨hw, z⟩, if_neg (by omega), show k.toNat = (R_K K).length by omega]
              rw [e] at h
              exact h
          · show Q (some (vi ((r_mx (fun i => lo_n (G_R K i) (q_st K) 1000000 6) k.toNat).2))) (M)
            by_cases z : q_st K = 0
            · have e : q_fair K w = -1 := by unfold q_fair; rw [if_neg (fun y => y.2 z)]
              rw [show k = 0 from hz z]
              rw [e] at h
              exact h
            · have e : q_fair K w = (r_mx (fun i => lo_n (G_R K i) (q_st K) 1000000 6) k.toNat).2 := by unfold q_fair q_fr; rw [if_pos ⟨hw, z⟩, if_pos (by omega), show k.toNat = (R_K K).length by omega]
              rw [e] at h
              exact h
        · show cw_C _ _ [vr m_, vi k, vi (q_st K)] (M) _
          refine M_leastOf hq (by omega) ⟨hq.1, ?_⟩
          refine And.intro (fun (c25 : (r_mx (fun i => lo_n (G_R K i) (q_st K) 1000000 6) k.toNat).1 < lo_n (G_R K k) (q_st K) 1000000 6) => ?_) (fun (c25 : ¬ ((r_mx (fun i => lo_n (G_R K i) (q_st K) 1000000 6) k.toNat).1 < lo_n (G_R K k) (q_st K) 1000000 6)) => ?_)
          · refine And.intro (show -2147483648 ≤ k + 1 ∧ k + 1 < 2147483648 by omega) ?_
            show cw_R _ _ 40 [vr m_, vi w, vi (q_st K), vi k, vi (lo_n (G_R K k) (q_st K) 1000000 6), vi (k + 1), vi (lo_n (G_R K k) (q_st K) 1000000 6)] [] (M) _
            have e := r_mx1 (g := (fun i => lo_n (G_R K i) (q_st K) 1000000 6)) hk.1 (by show _ < lo_n (G_R K k) (q_st K) 1000000 6; omega)
            have i1 := ih (k + 1)
            rw [e] at i1
            exact i1 _ (by omega) (by omega) (fun z => by omega)
          · refine And.intro (show -2147483648 ≤ k + 1 ∧ k + 1 < 2147483648 by omega) ?_
            show cw_R _ _ 40 [vr m_, vi w, vi (q_st K), vi ((r_mx (fun i => lo_n (G_R K i) (q_st K) 1000000 6) k.toNat).2), vi ((r_mx (fun i => lo_n (G_R K i) (q_st K) 1000000 6) k.toNat).1), vi (k + 1), vi (lo_n (G_R K k) (q_st K) 1000000 6)] [] (M) _
            have e := r_mx0 (g := (fun i => lo_n (G_R K i) (q_st K) 1000000 6)) hk.1 (by show ¬ _ < lo_n (G_R K k) (q_st K) 1000000 6; omega)
            rw [← e]
            exact ih (k + 1) _ (by omega) (by omega) (fun z => by omega)
  exact lp ((R_K K).length + 1) 0 w6 (by omega) (by omega) (fun _ => rfl)
theorem M_fair {d : Nat} {m : cw_M} {Q : Option cw_V → cw_M → Prop} (hm : la_ok m) (hc : ∀ j, 0 ≤ j → j < 7 → m m_catalan_ j = t_c j) (hK : K_r (m m_kept_)) {w : Int} (h : ∀ M, la_ok M → S_f m M → Q (some (vi (q_fair (m m_kept_) w))) M) : cw_C (d + 88) k_M_fair [vr m_, vi w] m Q := by
  refine la_go_C hm 27 [40] ?_
  show cw_C _ _ [vi w, vi 0, vi 1] (m) _
  refine M_lies (fun (a21 : 0 ≤ w) (a22 : w ≤ 1) => ⟨hm, ?_⟩) (fun (a23 : ¬ (0 ≤ w ∧ w ≤ 1)) => ⟨hm, ?_⟩)
  · refine br_t (show (1 : Int) ≠ 0 by decide) ?_
    show cw_C _ _ [vr m_] (m) _
    refine M_laysAll hm hc hK (fun (M : cw_M) (hM : A_h m M) (hG : ∀ i, 0 ≤ i → i < ((R_K (m m_kept_)).length : Int) → ∀ p, 0 ≤ p → p < 6 → M m_got_ (6 * M m_treeOf_ i + p) = G_R (m m_kept_) i p) => ⟨hM.1, ?_⟩)
    have hq := Q_ri hK hM hG
    have e35 := hM.2.2.1.2.2.1
    have rr := R_Kr hK
    show cw_C _ _ [vr m_] (M) _
    refine M_many hM.1 ⟨hM.1, ?_⟩
    refine And.intro (show -2147483648 ≤ (M m_kept_ 46) - 1 ∧ (M m_kept_ 46) - 1 < 2147483648 by rw [S_fk hM.2.1]; have := hK.1; omega) ?_
    show cw_C _ _ [vr m_, vi 0, vi ((M m_kept_ 46) - 1)] (M) _
    refine M_namedIn hM.1 (by rw [S_fk hM.2.1]; have := hK.1; omega) ⟨hM.1, ?_⟩
    show cw_R _ _ 40 [vr m_, vi w, vi (cw_iand (M m_ 38) (f_msk (fun i => M m_kept_ (19 + i)) 0 (M m_kept_ 46 - 1 + 1 - 0).toNat)), vi (-1), vi (-1), vi 0, none] [] (M) _
    have es : cw_iand (M m_ 38) (f_msk (fun i => M m_kept_ (19 + i)) 0 (M m_kept_ 46 - 1 + 1 - 0).toNat) = q_st (m m_kept_) := by unfold q_st; rw [hM.2.2.2, S_fk hM.2.1, show m m_kept_ 46 - 1 + 1 - 0 = m m_kept_ 46 by omega]
    rw [es]
    exact M_fair40 hq (by omega) (h M hM.1 hM.2.1)
  · refine br_f (show ¬ ((0 : Int) ≠ 0) by decide) ?_
    show Q (some (vi (-1))) (m)
    have e : q_fair (m m_kept_) w = -1 := by unfold q_fair; first | (rw [if_neg (by omega), if_neg (by omega)]; done) | rw [if_neg (by omega)]
    rw [e] at h
    exact h m hm S_fr
