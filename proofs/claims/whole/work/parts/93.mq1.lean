/-! Questions, by the reference (wip/whole/tools/m93.py). -/
def r_mn (g : Int → Int) : Nat → Int
  | 0 => 1000000
  | n + 1 => min (r_mn g n) (g n)
def r_mx (g : Int → Int) : Nat → Int × Int
  | 0 => (-1, -1)
  | n + 1 => if (r_mx g n).1 < g n then (g n, n) else r_mx g n
theorem r_mn1 {g : Int → Int} {k : Int} (hk : 0 ≤ k) : min (r_mn g k.toNat) (g k) = r_mn g (k + 1).toNat := by
  rw [show (k + 1).toNat = k.toNat + 1 by omega]
  show _ = min (r_mn g k.toNat) (g ((k.toNat : Nat) : Int))
  rw [show ((k.toNat : Nat) : Int) = k by omega]
theorem r_mx1 {g : Int → Int} {k : Int} (hk : 0 ≤ k) (h : (r_mx g k.toNat).1 < g k) : r_mx g (k + 1).toNat = (g k, k) := by
  rw [show (k + 1).toNat = k.toNat + 1 by omega]
  show (if (r_mx g k.toNat).1 < g ((k.toNat : Nat) : Int) then (g ((k.toNat : Nat) : Int), ((k.toNat : Nat) : Int)) else r_mx g k.toNat) = _
  rw [show ((k.toNat : Nat) : Int) = k by omega, if_pos h]
theorem r_mx0 {g : Int → Int} {k : Int} (hk : 0 ≤ k) (h : ¬ (r_mx g k.toNat).1 < g k) : r_mx g (k + 1).toNat = r_mx g k.toNat := by
  rw [show (k + 1).toNat = k.toNat + 1 by omega]
  show (if (r_mx g k.toNat).1 < g ((k.toNat : Nat) : Int) then (g ((k.toNat : Nat) : Int), ((k.toNat : Nat) : Int)) else r_mx g k.toNat) = _
  rw [show ((k.toNat : Nat) : Int) = k by omega, if_neg h]
def al_6 (g : Int → Int → Int) (i j : Int) : Prop := ∀ p, 0 ≤ p → p < 6 → g i p = g j p
noncomputable def u_n (g : Int → Int → Int) : Nat → Int
  | 0 => 0
  | n + 1 => u_n g n + @ite _ (∃ i : Int, (0 ≤ i ∧ i < n) ∧ al_6 g i n) (Classical.propDecidable _) 0 1
theorem u_n0 {g : Int → Int → Int} {k : Int} (hk : 0 ≤ k) (h : ∃ i : Int, (0 ≤ i ∧ i < k) ∧ al_6 g i k) : u_n g k.toNat + 0 = u_n g (k + 1).toNat := by
  rw [show (k + 1).toNat = k.toNat + 1 by omega]
  show _ = u_n g k.toNat + @ite _ (∃ i : Int, (0 ≤ i ∧ i < ((k.toNat : Nat) : Int)) ∧ al_6 g i ((k.toNat : Nat) : Int)) (Classical.propDecidable _) 0 1
  rw [if_pos (by rw [show ((k.toNat : Nat) : Int) = k by omega]; exact h)]
theorem u_n1 {g : Int → Int → Int} {k : Int} (hk : 0 ≤ k) (h : ¬ ∃ i : Int, (0 ≤ i ∧ i < k) ∧ al_6 g i k) : u_n g k.toNat + 1 = u_n g (k + 1).toNat := by
  rw [show (k + 1).toNat = k.toNat + 1 by omega]
  show _ = u_n g k.toNat + @ite _ (∃ i : Int, (0 ≤ i ∧ i < ((k.toNat : Nat) : Int)) ∧ al_6 g i ((k.toNat : Nat) : Int)) (Classical.propDecidable _) 0 1
  rw [if_neg (by rw [show ((k.toNat : Nat) : Int) = k by omega]; exact h)]
theorem u_nr {g : Int → Int → Int} : ∀ n : Nat, 0 ≤ u_n g n ∧ u_n g n ≤ n
  | 0 => ⟨Int.le_refl 0, Int.le_refl 0⟩
  | n + 1 => by
    have := u_nr (g := g) n
    show 0 ≤ u_n g n + @ite _ _ (Classical.propDecidable _) 0 1 ∧ u_n g n + @ite _ _ (Classical.propDecidable _) 0 1 ≤ _
    split <;> omega
/-- how deep a join lies -/
def d_c (n t j : Int) (i : Int) : Int := if i < n ∧ i ≠ j ∧ t_lo n t i ≤ t_lo n t j ∧ t_hi n t j ≤ t_hi n t i then 1 else 0
theorem d_dp {n t j : Int} (hn : 0 ≤ n ∧ n ≤ 6) (ht : 0 ≤ t ∧ t < t_c n) (hj : 0 ≤ j ∧ j < n) : d_c n t j 0 + d_c n t j 1 + d_c n t j 2 + d_c n t j 3 + d_c n t j 4 + d_c n t j 5 = t_dp n t j := by
  have key : ∀ (n : Fin 7) (t : Fin 132), (t.val : Int) < t_c n.val → ∀ j : Fin 6, (j.val : Int) < n.val → d_c n.val t.val j.val 0 + d_c n.val t.val j.val 1 + d_c n.val t.val j.val 2 + d_c n.val t.val j.val 3 + d_c n.val t.val j.val 4 + d_c n.val t.val j.val 5 = t_dp n.val t.val j.val := by decide +kernel
  have h := t_fin (P := fun n t => ∀ j : Fin 6, (j.val : Int) < n → d_c n t j.val 0 + d_c n t j.val 1 + d_c n t j.val 2 + d_c n t j.val 3 + d_c n t j.val 4 + d_c n t j.val 5 = t_dp n t j.val) key hn ht ⟨j.toNat, by omega⟩
  rw [show (((⟨j.toNat, by omega⟩ : Fin 6).val : Nat) : Int) = j by show ((j.toNat : Nat) : Int) = j; omega] at h
  exact h hj.2
/-- a memory of which readings can be asked -/
def Q_r (K : Int → Int) (M : cw_M) : Prop := la_ok M ∧ M m_kept_ = K ∧ K_r K ∧ M m_ 35 = ((R_K K).length : Int) ∧ ((R_K K).length : Int) ≤ 132 ∧ ∀ i, 0 ≤ i → i < ((R_K K).length : Int) → (0 ≤ M m_treeOf_ i ∧ M m_treeOf_ i < 132) ∧ ∀ p, 0 ≤ p → p < 6 → M m_got_ (6 * M m_treeOf_ i + p) = G_R K i p
theorem R_Kr {K : Int → Int} (hK : K_r K) : ((R_K K).length : Int) ≤ 132 ∧ ∀ i, 0 ≤ i → i < ((R_K K).length : Int) → (0 ≤ t_g (R_K K) i ∧ t_g (R_K K) i < t_tm (K 46)) ∧ t_g (R_K K) i < 132 := by
  have h := r_ll (mk := K) hK.1
  refine ⟨by show ((r_l K (K 46)).length : Int) ≤ 132; omega, fun i a b => ?_⟩
  have g := (r_lg (mk := K) hK.1 ⟨a, b⟩).1
  exact ⟨g, by show t_g (r_l K (K 46)) i < 132; omega⟩
theorem Q_ri {m M : cw_M} (hK : K_r (m m_kept_)) (h : A_h m M) (hg : ∀ i, 0 ≤ i → i < ((R_K (m m_kept_)).length : Int) → ∀ p, 0 ≤ p → p < 6 → M m_got_ (6 * M m_treeOf_ i + p) = G_R (m m_kept_) i p) : Q_r (m m_kept_) M := by
  have rr := R_Kr hK
  refine ⟨h.1, S_fk h.2.1, hK, h.2.2.1.2.2.1, rr.1, fun i a b => ⟨?_, hg i a b⟩⟩
  rw [h.2.2.1.2.2.2 i a b]
  have := rr.2 i a b
  omega
theorem M_gotIn {d : Nat} {m : cw_M} {Q : Option cw_V → cw_M → Prop} (hm : la_ok m) {i p v : Int} (hi : 0 ≤ i ∧ i < 132) (ht : 0 ≤ m m_treeOf_ i ∧ m m_treeOf_ i < 132) (hp : 0 ≤ p ∧ p < 6) (hv : m m_got_ (6 * m m_treeOf_ i + p) = v) (h : Q (some (vi v)) m) : cw_C d k_M_gotIn [vr m_, vi i, vi p] m Q := by
  refine la_go_C hm 15 [] ?_
  refine And.intro (show 0 ≤ i ∧ i < 132 by omega) ?_
  refine And.intro (show -2147483648 ≤ 6 * (m m_treeOf_ i) ∧ 6 * (m m_treeOf_ i) < 2147483648 by omega) ?_
  refine And.intro (show -2147483648 ≤ (6 * (m m_treeOf_ i)) + p ∧ (6 * (m m_treeOf_ i)) + p < 2147483648 by omega) ?_
  refine And.intro (show 0 ≤ (6 * (m m_treeOf_ i)) + p ∧ (6 * (m m_treeOf_ i)) + p < 792 by omega) ?_
  show Q (some (vi (m m_got_ ((6 * (m m_treeOf_ i)) + p)))) (m)
  rw [hv]
  exact h
theorem M_gotQ {d : Nat} {K : Int → Int} {M : cw_M} {Q : Option cw_V → cw_M → Prop} (hq : Q_r K M) {i p : Int} (hi : 0 ≤ i ∧ i < ((R_K K).length : Int)) (hp : 0 ≤ p ∧ p < 6) (h : Q (some (vi (G_R K i p))) M) : cw_C d k_M_gotIn [vr m_, vi i, vi p] M Q :=
  M_gotIn hq.1 (by have := hq.2.2.2.2.1; omega) (hq.2.2.2.2.2 i hi.1 hi.2).1 hp ((hq.2.2.2.2.2 i hi.1 hi.2).2 p hp.1 hp.2) h
noncomputable def q_gets (K : Int → Int) (rd p : Int) : Int := if (0 ≤ p ∧ p ≤ 5) ∧ 0 ≤ rd ∧ rd < ((R_K K).length : Int) then G_R K rd p else -1
theorem M_gets {d : Nat} {m : cw_M} {Q : Option cw_V → cw_M → Prop} (hm : la_ok m) (hc : ∀ j, 0 ≤ j → j < 7 → m m_catalan_ j = t_c j) (hK : K_r (m m_kept_)) {rd p : Int} (h : ∀ M, la_ok M → S_f m M → Q (some (vi (q_gets (m m_kept_) rd p))) M) : cw_C (d + 88) k_M_gets [vr m_, vi rd, vi p] m Q := by
  refine la_go_C hm 16 [] ?_
  show cw_C _ _ [vi p] (m) _
  refine M_isPerson (fun (p0 : 0 ≤ p) (p1 : p ≤ 5) => ⟨hm, ?_⟩) (fun (p0 : ¬ (0 ≤ p ∧ p ≤ 5)) => ⟨hm, ?_⟩)
  · refine br_f (show ¬ ((1 : Int) = 0) by decide) ?_
    show cw_C _ _ [vr m_, vi rd] (m) _
    refine M_laysOne hm hc hK (fun (a0 : 0 ≤ rd) (a1 : rd < ((R_K (m m_kept_)).length : Int)) (M : cw_M) (hM : A_h m M) (hG : ∀ p, 0 ≤ p → p < 6 → M m_got_ (6 * M m_treeOf_ rd + p) = G_R (m m_kept_) rd p) => ⟨hM.1, ?_⟩) (fun (a0 : ¬ (0 ≤ rd ∧ rd < ((R_K (m m_kept_)).length : Int))) (M : cw_M) (hMo : la_ok M) (hMs : S_f m M) => ⟨hMo, ?_⟩)
    · have rr := R_Kr hK
      have r1 := rr.2 rd a0 a1
      have et := hM.2.2.1.2.2.2 rd a0 a1
      refine br_f (show ¬ ((1 : Int) = 0) by decide) ?_
      show cw_C _ _ [vr m_, vi rd, vi p] (M) _
      refine M_gotIn hM.1 (by omega) (by rw [et]; omega) (by omega) (hG p (by omega) (by omega)) ⟨hM.1, ?_⟩
      have gr21 := G_Rr (K := (m m_kept_)) (i := rd) (p := p) hK
      show Q (some (vi (G_R (m m_kept_) rd p))) (M)
      have e : q_gets (m m_kept_) rd p = G_R (m m_kept_) rd p := by unfold q_gets; rw [if_pos (by omega)]
      rw [e] at h
      exact h M hM.1 hM.2.1
    · refine br_t (show (0 : Int) = 0 by decide) ?_
      show Q (some (vi (-1))) (M)
      have e : q_gets (m m_kept_) rd p = (-1) := by unfold q_gets; rw [if_neg (by omega)]
      rw [e] at h
      exact h M hMo hMs
  · refine br_t (show (0 : Int) = 0 by decide) ?_
    show Q (some (vi (-1))) (m)
    have e : q_gets (m m_kept_) rd p = (-1) := by unfold q_gets; rw [if_neg (by omega)]
    rw [e] at h
    exact h m hm S_fr
noncomputable def q_lost (K : Int → Int) (rd : Int) : Int := if 0 ≤ rd ∧ rd < ((R_K K).length : Int) then K 43 - G_R K rd 0 - G_R K rd 1 - G_R K rd 2 - G_R K rd 3 - G_R K rd 4 - G_R K rd 5 else -1
theorem M_lost {d : Nat} {m : cw_M} {Q : Option cw_V → cw_M → Prop} (hm : la_ok m) (hc : ∀ j, 0 ≤ j → j < 7 → m m_catalan_ j = t_c j) (hK : K_r (m m_kept_)) {rd : Int} (h : ∀ M, la_ok M → S_f m M → Q (some (vi (q_lost (m m_kept_) rd))) M) : cw_C (d + 88) k_M_lost [vr m_, vi rd] m Q := by
  refine la_go_C hm 91 [] ?_
  show cw_C _ _ [vr m_, vi rd] (m) _
  refine M_laysOne hm hc hK (fun (a0 : 0 ≤ rd) (a1 : rd < ((R_K (m m_kept_)).length : Int)) (M : cw_M) (hM : A_h m M) (hG : ∀ p, 0 ≤ p → p < 6 → M m_got_ (6 * M m_treeOf_ rd + p) = G_R (m m_kept_) rd p) => ⟨hM.1, ?_⟩) (fun (a0 : ¬ (0 ≤ rd ∧ rd < ((R_K (m m_kept_)).length : Int))) (M : cw_M) (hMo : la_ok M) (hMs : S_f m M) => ⟨hMo, ?_⟩)
  · have rr := R_Kr hK
    have r1 := rr.2 rd a0 a1
    have et := hM.2.2.1.2.2.2 rd a0 a1
    have k43 : M m_kept_ 43 = m m_kept_ 43 := by rw [S_fk hM.2.1]
    have kr43 := hK.2.2.2.2.2.2.1
    refine br_t (show (1 : Int) ≠ 0 by decide) ?_
    refine And.intro (show 0 ≤ 43 ∧ 43 < 5658 by omega) ?_
    refine br_f (show ¬ ((6 : Int) ≤ 0) by decide) ?_
    show cw_C _ _ [vr m_, vi rd, vi 0] (M) _
    refine M_gotIn hM.1 (by omega) (by rw [et]; omega) (by omega) (hG 0 (by omega) (by omega)) ⟨hM.1, ?_⟩
    have gr21 := G_Rr (K := (m m_kept_)) (i := rd) (p := 0) hK
    refine And.intro (show -2147483648 ≤ (M m_kept_ 43) - (G_R (m m_kept_) rd 0) ∧ (M m_kept_ 43) - (G_R (m m_kept_) rd 0) < 2147483648 by omega) ?_
    refine And.intro (show -2147483648 ≤ 1 ∧ 1 < 2147483648 by omega) ?_
    refine br_f (show ¬ ((6 : Int) ≤ 1) by decide) ?_
    show cw_C _ _ [vr m_, vi rd, vi 1] (M) _
    refine M_gotIn hM.1 (by omega) (by rw [et]; omega) (by omega) (hG 1 (by omega) (by omega)) ⟨hM.1, ?_⟩
    have gr22 := G_Rr (K := (m m_kept_)) (i := rd) (p := 1) hK
    refine And.intro (show -2147483648 ≤ ((M m_kept_ 43) - (G_R (m m_kept_) rd 0)) - (G_R (m m_kept_) rd 1) ∧ ((M m_kept_ 43) - (G_R (m m_kept_) rd 0)) - (G_R (m m_kept_) rd 1) < 2147483648 by omega) ?_
    refine And.intro (show -2147483648 ≤ 2 ∧ 2 < 2147483648 by omega) ?_
    refine br_f (show ¬ ((6 : Int) ≤ 2) by decide) ?_
    show cw_C _ _ [vr m_, vi rd, vi 2] (M) _
    refine M_gotIn hM.1 (by omega) (by rw [et]; omega) (by omega) (hG 2 (by omega) (by omega)) ⟨hM.1, ?_⟩
    have gr23 := G_Rr (K := (m m_kept_)) (i := rd) (p := 2) hK
    refine And.intro (show -2147483648 ≤ (((M m_kept_ 43) - (G_R (m m_kept_) rd 0)) - (G_R (m m_kept_) rd 1)) - (G_R (m m_kept_) rd 2) ∧ (((M m_kept_ 43) - (G_R (m m_kept_) rd 0)) - (G_R (m m_kept_) rd 1)) - (G_R (m m_kept_) rd 2) < 2147483648 by omega) ?_
    refine And.intro (show -2147483648 ≤ 3 ∧ 3 < 2147483648 by omega) ?_
    refine br_f (show ¬ ((6 : Int) ≤ 3) by decide) ?_
    show cw_C _ _ [vr m_, vi rd, vi 3] (M) _
    refine M_gotIn hM.1 (by omega) (by rw [et]; omega) (by omega) (hG 3 (by omega) (by omega)) ⟨hM.1, ?_⟩
    have gr24 := G_Rr (K := (m m_kept_)) (i := rd) (p := 3) hK
    refine And.intro (show -2147483648 ≤ ((((M m_kept_ 43) - (G_R (m m_kept_) rd 0)) - (G_R (m m_kept_) rd 1)) - (G_R (m m_kept_) rd 2)) - (G_R (m m_kept_) rd 3) ∧ ((((M m_kept_ 43) - (G_R (m m_kept_) rd 0)) - (G_R (m m_kept_) rd 1)) - (G_R (m m_kept_) rd 2)) - (G_R (m m_kept_) rd 3) < 2147483648 by omega) ?_
    refine And.intro (show -2147483648 ≤ 4 ∧ 4 < 2147483648 by omega) ?_
    refine br_f (show ¬ ((6 : Int) ≤ 4) by decide) ?_
    show cw_C _ _ [vr m_, vi rd, vi 4] (M) _
    refine M_gotIn hM.1 (by omega) (by rw [et]; omega) (by omega) (hG 4 (by omega) (by omega)) ⟨hM.1, ?_⟩
    have gr25 := G_Rr (K := (m m_kept_)) (i := rd) (p := 4) hK
    refine And.intro (show -2147483648 ≤ (((((M m_kept_ 43) - (G_R (m m_kept_) rd 0)) - (G_R (m m_kept_) rd 1)) - (G_R (m m_kept_) rd 2)) - (G_R (m m_kept_) rd 3)) - (G_R (m m_kept_) rd 4) ∧ (((((M m_kept_ 43) - (G_R (m m_kept_) rd 0)) - (G_R (m m_kept_) rd 1)) - (G_R (m m_kept_) rd 2)) - (G_R (m m_kept_) rd 3)) - (G_R (m m_kept_) rd 4) < 2147483648 by omega) ?_
    refine And.intro (show -2147483648 ≤ 5 ∧ 5 < 2147483648 by omega) ?_
    refine br_f (show ¬ ((6 : Int) ≤ 5) by decide) ?_
    show cw_C _ _ [vr m_, vi rd, vi 5] (M) _
    refine M_gotIn hM.1 (by omega) (by rw [et]; omega) (by omega) (hG 5 (by omega) (by omega)) ⟨hM.1, ?_⟩
    have gr26 := G_Rr (K := (m m_kept_)) (i := rd) (p := 5) hK
    refine And.intro (show -2147483648 ≤ ((((((M m_kept_ 43) - (G_R (m m_kept_) rd 0)) - (G_R (m m_kept_) rd 1)) - (G_R (m m_kept_) rd 2)) - (G_R (m m_kept_) rd 3)) - (G_R (m m_kept_) rd 4)) - (G_R (m m_kept_) rd 5) ∧ ((((((M m_kept_ 43) - (G_R (m m_kept_) rd 0)) - (G_R (m m_kept_) rd 1)) - (G_R (m m_kept_) rd 2)) - (G_R (m m_kept_) rd 3)) - (G_R (m m_kept_) rd 4)) - (G_R (m m_kept_) rd 5) < 2147483648 by omega) ?_
    refine And.intro (show -2147483648 ≤ 6 ∧ 6 < 2147483648 by omega) ?_
    refine br_t (show (6 : Int) ≤ 6 by decide) ?_
    show Q (some (vi (((((((M m_kept_ 43) - (G_R (m m_kept_) rd 0)) - (G_R (m m_kept_) rd 1)) - (G_R (m m_kept_) rd 2)) - (G_R (m m_kept_) rd 3)) - (G_R (m m_kept_) rd 4)) - (G_R (m m_kept_) rd 5)))) (M)
    have e : q_lost (m m_kept_) rd = ((((((M m_kept_ 43) - (G_R (m m_kept_) rd 0)) - (G_R (m m_kept_) rd 1)) - (G_R (m m_kept_) rd 2)) - (G_R (m m_kept_) rd 3)) - (G_R (m m_kept_) rd 4)) - (G_R (m m_kept_) rd 5) := by unfold q_lost; rw [if_pos (by omega), k43]
    rw [e] at h
    exact h M hM.1 hM.2.1
  · refine br_f (show ¬ ((0 : Int) ≠ 0) by decide) ?_
    show Q (some (vi (-1))) (M)
    have e : q_lost (m m_kept_) rd = -1 := by unfold q_lost; rw [if_neg (by omega)]
    rw [e] at h
    exact h M hMo hMs
noncomputable def q_rng (K : Int → Int) (p w : Int) : Int := if (0 ≤ p ∧ p ≤ 5) ∧ (0 ≤ w ∧ w ≤ 2) ∧ 0 < ((R_K K).length : Int) then (if w = 0 then r_mn (fun i => G_R K i p) (R_K K).length else if w = 1 then (r_mx (fun i => G_R K i p) (R_K K).length).1 else (r_mx (fun i => G_R K i p) (R_K K).length).2) else -1
theorem M_range43 {d : Nat} {K : Int → Int} {M : cw_M} {Q : Option cw_V → cw_M → Prop} (hq : Q_r K M) {p w : Int} (hp : 0 ≤ p ∧ p ≤ 5) (hw : 0 ≤ w ∧ w ≤ 2) (hl : 0 < ((R_K K).length : Int)) (h : Q (some (vi (q_rng K p w))) M) {w7 : cw_V} : cw_R (d + 1) k_M_range 43 [vr m_, vi p, vi w, vi 1000000, vi (-1), vi (-1), vi 0, w7] [] M Q := by
  have e35 := hq.2.2.2.1
  have rl := hq.2.2.2.2.1
  have lp : ∀ (r : Nat) (k : Int) (w7 : cw_V), ((R_K K).length : Int) < k + r → (0 ≤ k ∧ k ≤ ((R_K K).length : Int)) → cw_R (d + 1) k_M_range 43 [vr m_, vi p, vi w, vi (r_mn (fun i => G_R K i p) k.toNat), vi ((r_mx (fun i => G_R K i p) k.toNat).1), vi ((r_mx (fun i => G_R K i p) k.toNat).2), vi k, w7] [] M Q := by
    intro r
    induction r with
    | zero =>
      intro k w7 hr hk
      omega
    | succ r ih =>
      intro k w7 hr hk
      refine la_go_R hq.1 25 [43] ?_
      refine And.intro (fun (c21 : M m_ 35 ≤ k) => ?_) (fun (c21 : ¬ (M m_ 35 ≤ k)) => ?_)
      · refine And.intro (fun (c22 : w ≠ 0) => ?_) (fun (c22 : ¬ (w ≠ 0)) => ?_)
        · refine And.intro (fun (c23 : w ≠ 1) => ?_) (fun (c23 : ¬ (w ≠ 1)) => ?_)
          · show Q (some (vi ((r_mx (fun i => G_R K i p) k.toNat).2))) (M)
            have ek : k = ((R_K K).length : Int) := by omega
            have et : k.toNat = (R_K K).length := by omega
            rw [et]
            have e : q_rng K p w = (r_mx (fun i => G_R K i p) (R_K K).length).2 := by unfold q_rng; rw [if_pos (by omega), if_neg (by omega), if_neg (by omega)]
            rw [e] at h
            exact h
          · show Q (some (vi ((r_mx (fun i => G_R K i p) k.toNat).1))) (M)
            have ek : k = ((R_K K).length : Int) := by omega
            have et : k.toNat = (R_K K).length := by omega
            rw [et]
            have e : q_rng K p w = (r_mx (fun i => G_R K i p) (R_K K).length).1 := by unfold q_rng; rw [if_pos (by omega), if_neg (by omega), if_pos (by omega)]
            rw [e] at h
            exact h
        · show Q (some (vi (r_mn (fun i => G_R K i p) k.toNat))) (M)
          have ek : k = ((R_K K).length : Int) := by omega
          have et : k.toNat = (R_K K).length := by omega
          rw [et]
          have e : q_rng K p w = r_mn (fun i => G_R K i p) (R_K K).length := by unfold q_rng; rw [if_pos (by omega), if_pos (by omega)]
          rw [e] at h
          exact h
      · show cw_C _ _ [vr m_, vi k, vi p] (M) _
        refine M_gotQ hq (by omega) (by omega) ⟨hq.1, ?_⟩
        have gr24 := G_Rr (K := K) (i := k) (p := p) hq.2.2.1
        show cw_C _ _ [vi (r_mn (fun i => G_R K i p) k.toNat), vi (G_R K k p)] (M) _
        refine M_lesser ⟨hq.1, ?_⟩
        refine And.intro (fun (c25 : (r_mx (fun i => G_R K i p) k.toNat).1 < G_R K k p) => ?_) (fun (c25 : ¬ ((r_mx (fun i => G_R K i p) k.toNat).1 < G_R K k p)) => ?_)
        · refine And.intro (show -2147483648 ≤ k + 1 ∧ k + 1 < 2147483648 by omega) ?_
          show cw_R _ _ 43 [vr m_, vi p, vi w, vi (min (r_mn (fun i => G_R K i p) k.toNat) (G_R K k p)), vi (G_R K k p), vi k, vi (k + 1), vi (G_R K k p)] [] (M) _
          rw [r_mn1 (g := (fun i => G_R K i p)) hk.1]
          have e := r_mx1 (g := (fun i => G_R K i p)) hk.1 (by show _ < G_R K k p; omega)
          skip
          have i1 := ih (k + 1)
          rw [e] at i1
          exact i1 _ (by omega) (by omega)
        · refine And.intro (show -2147483648 ≤ k + 1 ∧ k + 1 < 2147483648 by omega) ?_
          show cw_R _ _ 43 [vr m_, vi p, vi w, vi (min (r_mn (fun i => G_R K i p) k.toNat) (G_R K k p)), vi ((r_mx (fun i => G_R K i p) k.toNat).1), vi ((r_mx (fun i => G_R K i p) k.toNat).2), vi (k + 1), vi (G_R K k p)] [] (M) _
          rw [r_mn1 (g := (fun i => G_R K i p)) hk.1]
          have e := r_mx0 (g := (fun i => G_R K i p)) hk.1 (by show ¬ _ < G_R K k p; omega)
          rw [← e]
          exact ih (k + 1) _ (by omega) (by omega)
  exact lp ((R_K K).length + 1) 0 w7 (by omega) (by omega)
theorem M_range {d : Nat} {m : cw_M} {Q : Option cw_V → cw_M → Prop} (hm : la_ok m) (hc : ∀ j, 0 ≤ j → j < 7 → m m_catalan_ j = t_c j) (hK : K_r (m m_kept_)) {p w : Int} (h : ∀ M, la_ok M → S_f m M → Q (some (vi (q_rng (m m_kept_) p w))) M) : cw_C (d + 88) k_M_range [vr m_, vi p, vi w] m Q := by
  refine la_go_C hm 24 [43] ?_
  show cw_C _ _ [vi p] (m) _
  refine M_isPerson (fun (p0 : 0 ≤ p) (p1 : p ≤ 5) => ⟨hm, ?_⟩) (fun (p0 : ¬ (0 ≤ p ∧ p ≤ 5)) => ⟨hm, ?_⟩)
  · refine br_f (show ¬ ((1 : Int) = 0) by decide) ?_
    show cw_C _ _ [vi w, vi 0, vi 2] (m) _
    refine M_lies (fun (a21 : 0 ≤ w) (a22 : w ≤ 2) => ⟨hm, ?_⟩) (fun (a23 : ¬ (0 ≤ w ∧ w ≤ 2)) => ⟨hm, ?_⟩)
    · refine br_t (show (1 : Int) ≠ 0 by decide) ?_
      show cw_C _ _ [vr m_] (m) _
      refine M_laysAll hm hc hK (fun (M : cw_M) (hM : A_h m M) (hG : ∀ i, 0 ≤ i → i < ((R_K (m m_kept_)).length : Int) → ∀ p, 0 ≤ p → p < 6 → M m_got_ (6 * M m_treeOf_ i + p) = G_R (m m_kept_) i p) => ⟨hM.1, ?_⟩)
      have hq := Q_ri hK hM hG
      have e35 := hM.2.2.1.2.2.1
      have rr := R_Kr hK
      refine And.intro (fun (c24 : M m_ 35 ≠ 0) => ?_) (fun (c24 : ¬ (M m_ 35 ≠ 0)) => ?_)
      · show cw_R _ _ 43 [vr m_, vi p, vi w, vi 1000000, vi (-1), vi (-1), vi 0, none] [] (M) _
        exact M_range43 hq (by omega) (by omega) (by omega) (h M hM.1 hM.2.1)
      · show Q (some (vi (-1))) (M)
        have e : q_rng (m m_kept_) p w = -1 := by unfold q_rng; rw [if_neg (by omega)]
        rw [e] at h
        exact h M hM.1 hM.2.1
    · refine br_f (show ¬ ((0 : Int) ≠ 0) by decide) ?_
      show Q (some (vi (-1))) (m)
      have e : q_rng (m m_kept_) p w = -1 := by unfold q_rng; rw [if_neg (by omega)]
      rw [e] at h
      exact h m hm S_fr
  · refine br_t (show (0 : Int) = 0 by decide) ?_
    show Q (some (vi (-1))) (m)
    have e : q_rng (m m_kept_) p w = -1 := by unfold q_rng; rw [if_neg (by omega)]
    rw [e] at h
    exact h m hm S_fr
theorem M_areAlike {d : Nat} {m : cw_M} {Q : Option cw_V → cw_M → Prop} (hm : la_ok m) {t u : Int} (ht : 0 ≤ t ∧ t < 132) (hu : 0 ≤ u ∧ u < 132) (h1 : (∀ q, 0 ≤ q → q < 6 → m m_got_ (6 * t + q) = m m_got_ (6 * u + q)) → Q (some (vi 1)) m) (h0 : ¬ (∀ q, 0 ≤ q → q < 6 → m m_got_ (6 * t + q) = m m_got_ (6 * u + q)) → Q (some (vi 0)) m) : cw_C d k_M_areAlike [vr m_, vi t, vi u] m Q := by
  have lp : ∀ (r : Nat) (p v : Int), 6 < p + r → (0 ≤ p ∧ p ≤ 6) → ((v = 1 ∧ ∀ q, 0 ≤ q → q < p → m m_got_ (6 * t + q) = m m_got_ (6 * u + q)) ∨ (v = 0 ∧ ∃ q, (0 ≤ q ∧ q < p) ∧ ¬ m m_got_ (6 * t + q) = m m_got_ (6 * u + q))) → cw_R (d) k_M_areAlike 5 [vr m_, vi t, vi u, vi v, vi p] [] m Q := by
    intro r
    induction r with
    | zero =>
      intro p v hr hp hv
      omega
    | succ r ih =>
      intro p v hr hp hv
      refine la_go_R hm 30 [5] ?_
      refine And.intro (fun (c21 : 6 ≤ p) => ?_) (fun (c21 : ¬ (6 ≤ p)) => ?_)
      · refine And.intro (show v = 0 ∨ v = 1 by omega) ?_
        show Q (some (vi v)) (m)
        rcases hv with ⟨v1, hv'⟩ | ⟨v0, q, q0, hq'⟩
        · rw [v1]; exact h1 (fun q a b => hv' q a (by omega))
        · rw [v0]; exact h0 (fun z => hq' (z q q0.1 (by omega)))
      · refine And.intro (fun (c22 : v = 0) => ?_) (fun (c22 : ¬ (v = 0)) => ?_)
        · refine And.intro (show -2147483648 ≤ p + 1 ∧ p + 1 < 2147483648 by omega) ?_
          show cw_R _ _ 5 [vr m_, vi t, vi u, vi 0, vi (p + 1)] [] (m) _
          rcases hv with ⟨v1, hv'⟩ | ⟨v0, q, q0, hq'⟩
          · first | omega | exact ih (p + 1) 0 (by omega) (by omega) (Or.inr ⟨rfl, p, by omega, by omega⟩)
          · exact ih (p + 1) 0 (by omega) (by omega) (Or.inr ⟨rfl, q, by omega, hq'⟩)
        · refine And.intro (show -2147483648 ≤ 6 * t ∧ 6 * t < 2147483648 by omega) ?_
          refine And.intro (show -2147483648 ≤ (6 * t) + p ∧ (6 * t) + p < 2147483648 by omega) ?_
          refine And.intro (show 0 ≤ (6 * t) + p ∧ (6 * t) + p < 792 by omega) ?_
          refine And.intro (show -2147483648 ≤ 6 * u ∧ 6 * u < 2147483648 by omega) ?_
          refine And.intro (show -2147483648 ≤ (6 * u) + p ∧ (6 * u) + p < 2147483648 by omega) ?_
          refine And.intro (show 0 ≤ (6 * u) + p ∧ (6 * u) + p < 792 by omega) ?_
          refine And.intro (fun (c23 : m m_got_ ((6 * t) + p) ≠ m m_got_ ((6 * u) + p)) => ?_) (fun (c23 : ¬ (m m_got_ ((6 * t) + p) ≠ m m_got_ ((6 * u) + p))) => ?_)
          · refine And.intro (show -2147483648 ≤ p + 1 ∧ p + 1 < 2147483648 by omega) ?_
            show cw_R _ _ 5 [vr m_, vi t, vi u, vi 0, vi (p + 1)] [] (m) _
            rcases hv with ⟨v1, hv'⟩ | ⟨v0, q, q0, hq'⟩
            · first | omega | exact ih (p + 1) 0 (by omega) (by omega) (Or.inr ⟨rfl, p, by omega, by omega⟩)
            · exact ih (p + 1) 0 (by omega) (by omega) (Or.inr ⟨rfl, q, by omega, hq'⟩)
          · refine And.intro (show -2147483648 ≤ p + 1 ∧ p + 1 < 2147483648 by omega) ?_
            show cw_R _ _ 5 [vr m_, vi t, vi u, vi 1, vi (p + 1)] [] (m) _
            rcases hv with ⟨v1, hv'⟩ | ⟨v0, q, q0, hq'⟩
            · exact ih (p + 1) 1 (by omega) (by omega) (Or.inl ⟨rfl, fun q a b => by
                by_cases e : q = p
                · rw [e]; omega
                · exact hv' q a (by omega)⟩)
            · omega
  refine la_go_C hm 7 [5] ?_
  show cw_R _ _ 5 [vr m_, vi t, vi u, vi 1, vi 0] [] (m) _
  exact lp 7 0 1 (by omega) (by omega) (Or.inl ⟨rfl, fun q a b => by omega⟩)
theorem M_unlike8 {d : Nat} {K : Int → Int} {M : cw_M} {Q : Option cw_V → cw_M → Prop} (hq : Q_r K M) (h : Q (some (vi (u_n (G_R K) (R_K K).length))) M) {w3 w4 : cw_V} : cw_R (d + 1) k_M_unlike 8 [vr m_, vi 0, vi 0, w3, w4] [] M Q := by
  have e35 := hq.2.2.2.1
  have rl := hq.2.2.2.2.1
  have l8 : ∀ (r : Nat) (k : Int) (w3 w4 : cw_V), ((R_K K).length : Int) < k + r → (0 ≤ k ∧ k ≤ ((R_K K).length : Int)) → cw_R (d + 1) k_M_unlike 8 [vr m_, vi (u_n (G_R K) k.toNat), vi k, w3, w4] [] M Q := by
    intro r
    induction r with
    | zero =>
      intro k w3 w4 hr hk
      omega
    | succ r ih8 =>
      intro k w3 w4 hr hk
      have l21 : ∀ (r : Nat) (i v : Int), k < i + r → (k < ((R_K K).length : Int)) → (0 ≤ i ∧ i ≤ k) → ((v = 1 ∧ ¬ ∃ z : Int, (0 ≤ z ∧ z < i) ∧ al_6 (G_R K) z k) ∨ (v = 0 ∧ ∃ z : Int, (0 ≤ z ∧ z < k) ∧ al_6 (G_R K) z k)) → cw_R (d + 1) k_M_unlike 21 [vr m_, vi (u_n (G_R K) k.toNat), vi k, vi v, vi i] [] M Q := by
        intro r
        induction r with
        | zero =>
          intro i v hr hkl hi hv
          omega
        | succ r ih =>
          intro i v hr hkl hi hv
          have ur := u_nr (g := G_R K) k.toNat
          refine la_go_R hq.1 24 [8, 21] ?_
          refine And.intro (fun (c21 : k ≤ i) => ?_) (fun (c21 : ¬ (k ≤ i)) => ?_)
          · refine And.intro (fun (c22 : v = 0) => ?_) (fun (c22 : ¬ (v = 0)) => ?_)
            · refine And.intro (show -2147483648 ≤ (u_n (G_R K) k.toNat) + 0 ∧ (u_n (G_R K) k.toNat) + 0 < 2147483648 by omega) ?_
              refine And.intro (show -2147483648 ≤ k + 1 ∧ k + 1 < 2147483648 by omega) ?_
              show cw_R _ _ 8 [vr m_, vi ((u_n (G_R K) k.toNat) + 0), vi (k + 1), vi v, vi i] [] (M) _
              have hn : ∃ z : Int, (0 ≤ z ∧ z < k) ∧ al_6 (G_R K) z k := by
                rcases hv with ⟨v1, hv⟩ | ⟨v0, hv⟩
                · omega
                · exact hv
              rw [u_n0 hk.1 hn]
              exact ih8 (k + 1) _ _ (by omega) (by omega)
            · refine And.intro (show -2147483648 ≤ (u_n (G_R K) k.toNat) + 1 ∧ (u_n (G_R K) k.toNat) + 1 < 2147483648 by omega) ?_
              refine And.intro (show -2147483648 ≤ k + 1 ∧ k + 1 < 2147483648 by omega) ?_
              show cw_R _ _ 8 [vr m_, vi ((u_n (G_R K) k.toNat) + 1), vi (k + 1), vi v, vi i] [] (M) _
              have hn : ¬ ∃ z : Int, (0 ≤ z ∧ z < k) ∧ al_6 (G_R K) z k := by
                rcases hv with ⟨v1, hv⟩ | ⟨v0, -⟩
                · rw [show i = k by omega] at hv; exact hv
                · omega
              rw [u_n1 hk.1 hn]
              exact ih8 (k + 1) _ _ (by omega) (by omega)
          · refine And.intro (fun (c23 : v = 0) => ?_) (fun (c23 : ¬ (v = 0)) => ?_)
            · refine And.intro (fun (c24 : v = 0) => ?_) (fun (c24 : ¬ (v = 0)) => ?_)
              · refine And.intro (show -2147483648 ≤ (u_n (G_R K) k.toNat) + 0 ∧ (u_n (G_R K) k.toNat) + 0 < 2147483648 by omega) ?_
                refine And.intro (show -2147483648 ≤ k + 1 ∧ k + 1 < 2147483648 by omega) ?_
                show cw_R _ _ 8 [vr m_, vi ((u_n (G_R K) k.toNat) + 0), vi (k + 1), vi v, vi i] [] (M) _
                have hn : ∃ z : Int, (0 ≤ z ∧ z < k) ∧ al_6 (G_R K) z k := by
                  rcases hv with ⟨v1, hv⟩ | ⟨v0, hv⟩
                  · omega
                  · exact hv
                rw [u_n0 hk.1 hn]
                exact ih8 (k + 1) _ _ (by omega) (by omega)
              · refine And.intro (show -2147483648 ≤ (u_n (G_R K) k.toNat) + 1 ∧ (u_n (G_R K) k.toNat) + 1 < 2147483648 by omega) ?_
                refine And.intro (show -2147483648 ≤ k + 1 ∧ k + 1 < 2147483648 by omega) ?_
                show cw_R _ _ 8 [vr m_, vi ((u_n (G_R K) k.toNat) + 1), vi (k + 1), vi v, vi i] [] (M) _
                have hn : ¬ ∃ z : Int, (0 ≤ z ∧ z < k) ∧ al_6 (G_R K) z k := by
                  rcases hv with ⟨v1, hv⟩ | ⟨v0, -⟩
                  · rw [show i = k by omega] at hv; exact hv
                  · omega
                rw [u_n1 hk.1 hn]
                exact ih8 (k + 1) _ _ (by omega) (by omega)
            · refine And.intro (show 0 ≤ i ∧ i < 132 by omega) ?_
              refine And.intro (show 0 ≤ k ∧ k < 132 by omega) ?_
              show cw_C _ _ [vr m_, vi (M m_treeOf_ i), vi (M m_treeOf_ k)] (M) _
              refine M_areAlike hq.1 (hq.2.2.2.2.2 i (by omega) (by omega)).1 (hq.2.2.2.2.2 k (by omega) (by omega)).1 (fun (ax : ∀ q, 0 ≤ q → q < 6 → M m_got_ (6 * M m_treeOf_ i + q) = M m_got_ (6 * M m_treeOf_ k + q)) => ⟨hq.1, ?_⟩) (fun (ax : ¬ ∀ q, 0 ≤ q → q < 6 → M m_got_ (6 * M m_treeOf_ i + q) = M m_got_ (6 * M m_treeOf_ k + q)) => ⟨hq.1, ?_⟩)
              · have ax : al_6 (G_R K) i k := fun q a b => by rw [← (hq.2.2.2.2.2 i (by omega) (by omega)).2 q a b, ← (hq.2.2.2.2.2 k (by omega) (by omega)).2 q a b]; exact ax q a b
                refine br_t (show (1 : Int) ≠ 0 by decide) ?_
                refine And.intro (show -2147483648 ≤ i + 1 ∧ i + 1 < 2147483648 by omega) ?_
                show cw_R _ _ 21 [vr m_, vi (u_n (G_R K) k.toNat), vi k, vi 0, vi (i + 1)] [] (M) _
                exact ih (i + 1) 0 (by omega) (by omega) (by omega) (Or.inr ⟨rfl, i, by omega, ax⟩)
              · have ax : ¬ al_6 (G_R K) i k := fun z => ax (fun q a b => by rw [(hq.2.2.2.2.2 i (by omega) (by omega)).2 q a b, (hq.2.2.2.2.2 k (by omega) (by omega)).2 q a b]; exact z q a b)
                refine br_f (show ¬ ((0 : Int) ≠ 0) by decide) ?_
                refine And.intro (show -2147483648 ≤ i + 1 ∧ i + 1 < 2147483648 by omega) ?_
                show cw_R _ _ 21 [vr m_, vi (u_n (G_R K) k.toNat), vi k, vi 1, vi (i + 1)] [] (M) _
                refine ih (i + 1) 1 (by omega) (by omega) (by omega) (Or.inl ⟨rfl, ?_⟩)
                rcases hv with ⟨v1, hv⟩ | ⟨v0, hv⟩
                · rintro ⟨z, z0, z1⟩
                  by_cases e : z = i
                  · rw [e] at z1; exact ax z1
                  · exact hv ⟨z, by omega, z1⟩
                · omega
      refine la_go_R hq.1 11 [8, 21] ?_
      refine And.intro (fun (c21 : M m_ 35 ≤ k) => ?_) (fun (c21 : ¬ (M m_ 35 ≤ k)) => ?_)
      · show Q (some (vi (u_n (G_R K) k.toNat))) (M)
        rw [show k.toNat = (R_K K).length by omega]
        exact h
      · show cw_R _ _ 21 [vr m_, vi (u_n (G_R K) k.toNat), vi k, vi 1, vi 0] [] (M) _
        exact l21 (k.toNat + 1) 0 1 (by omega) (by omega) (by omega) (Or.inl ⟨rfl, fun ⟨z, z0, z1⟩ => by omega⟩)
  exact l8 ((R_K K).length + 1) 0 w3 w4 (by omega) (by omega)
theorem M_unlike {d : Nat} {m : cw_M} {Q : Option cw_V → cw_M → Prop} (hm : la_ok m) (hc : ∀ j, 0 ≤ j → j < 7 → m m_catalan_ j = t_c j) (hK : K_r (m m_kept_)) (h : ∀ M, la_ok M → S_f m M → Q (some (vi (u_n (G_R (m m_kept_)) (R_K (m m_kept_)).length))) M) : cw_C (d + 88) k_M_unlike [vr m_] m Q := by
  refine la_go_C hm 9 [8] ?_
  show cw_C _ _ [vr m_] (m) _
  refine M_laysAll hm hc hK (fun (M : cw_M) (hM : A_h m M) (hG : ∀ i, 0 ≤ i → i < ((R_K (m m_kept_)).length : Int) → ∀ p, 0 ≤ p → p < 6 → M m_got_ (6 * M m_treeOf_ i + p) = G_R (m m_kept_) i p) => ⟨hM.1, ?_⟩)
  have hq := Q_ri hK hM hG
  have e35 := hM.2.2.1.2.2.1
  have rr := R_Kr hK
  show cw_R _ _ 8 [vr m_, vi 0, vi 0, none, none] [] (M) _
  exact M_unlike8 hq (h M hM.1 hM.2.1)
