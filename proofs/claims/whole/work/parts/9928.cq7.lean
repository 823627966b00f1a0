/-! Small questions, by the class (wip/whole/tools/m128.py). -/
theorem m_Bb0 : ∀ (a0 a1 a2 a3 a4 a5 : Fin 2), cw_iand (cw_ishr (cw_ior (cw_ior (cw_ior (cw_ior (cw_ior (cw_ior 0 (cw_ishl (a0.val : Int) 0)) (cw_ishl (a1.val : Int) 1)) (cw_ishl (a2.val : Int) 2)) (cw_ishl (a3.val : Int) 3)) (cw_ishl (a4.val : Int) 4)) (cw_ishl (a5.val : Int) 5)) 0) 1 = (a0.val : Int) ∧ cw_iand (cw_ishr (cw_ior (cw_ior (cw_ior (cw_ior (cw_ior (cw_ior 0 (cw_ishl (a0.val : Int) 0)) (cw_ishl (a1.val : Int) 1)) (cw_ishl (a2.val : Int) 2)) (cw_ishl (a3.val : Int) 3)) (cw_ishl (a4.val : Int) 4)) (cw_ishl (a5.val : Int) 5)) 1) 1 = (a1.val : Int) ∧ cw_iand (cw_ishr (cw_ior (cw_ior (cw_ior (cw_ior (cw_ior (cw_ior 0 (cw_ishl (a0.val : Int) 0)) (cw_ishl (a1.val : Int) 1)) (cw_ishl (a2.val : Int) 2)) (cw_ishl (a3.val : Int) 3)) (cw_ishl (a4.val : Int) 4)) (cw_ishl (a5.val : Int) 5)) 2) 1 = (a2.val : Int) ∧ cw_iand (cw_ishr (cw_ior (cw_ior (cw_ior (cw_ior (cw_ior (cw_ior 0 (cw_ishl (a0.val : Int) 0)) (cw_ishl (a1.val : Int) 1)) (cw_ishl (a2.val : Int) 2)) (cw_ishl (a3.val : Int) 3)) (cw_ishl (a4.val : Int) 4)) (cw_ishl (a5.val : Int) 5)) 3) 1 = (a3.val : Int) ∧ cw_iand (cw_ishr (cw_ior (cw_ior (cw_ior (cw_ior (cw_ior (cw_ior 0 (cw_ishl (a0.val : Int) 0)) (cw_ishl (a1.val : Int) 1)) (cw_ishl (a2.val : Int) 2)) (cw_ishl (a3.val : Int) 3)) (cw_ishl (a4.val : Int) 4)) (cw_ishl (a5.val : Int) 5)) 4) 1 = (a4.val : Int) ∧ cw_iand (cw_ishr (cw_ior (cw_ior (cw_ior (cw_ior (cw_ior (cw_ior 0 (cw_ishl (a0.val : Int) 0)) (cw_ishl (a1.val : Int) 1)) (cw_ishl (a2.val : Int) 2)) (cw_ishl (a3.val : Int) 3)) (cw_ishl (a4.val : Int) 4)) (cw_ishl (a5.val : Int) 5)) 5) 1 = (a5.val : Int) := by decide +kernel
theorem m_Bb {b : Int → Int} {p : Int} (hb : ∀ p, 0 ≤ p → p < 6 → b p = 0 ∨ b p = 1) (hp : 0 ≤ p ∧ p < 6) : cw_iand (cw_ishr (m_B b 6) p) 1 = b p := by
  obtain ⟨a0, e0⟩ := m_bit (hb 0 (by decide) (by decide))
  obtain ⟨a1, e1⟩ := m_bit (hb 1 (by decide) (by decide))
  obtain ⟨a2, e2⟩ := m_bit (hb 2 (by decide) (by decide))
  obtain ⟨a3, e3⟩ := m_bit (hb 3 (by decide) (by decide))
  obtain ⟨a4, e4⟩ := m_bit (hb 4 (by decide) (by decide))
  obtain ⟨a5, e5⟩ := m_bit (hb 5 (by decide) (by decide))
  have key := m_Bb0 a0 a1 a2 a3 a4 a5
  rw [← e0, ← e1, ← e2, ← e3, ← e4, ← e5] at key
  rcases (by omega : p = 0 ∨ p = 1 ∨ p = 2 ∨ p = 3 ∨ p = 4 ∨ p = 5) with e | e | e | e | e | e <;> subst e
  · exact key.1
  · exact key.2.1
  · exact key.2.2.1
  · exact key.2.2.2.1
  · exact key.2.2.2.2.1
  · exact key.2.2.2.2.2
def q_who (K : Int → Int) (n : Int) : Int := if 0 ≤ n ∧ n < K 46 then K (19 + n) else -1
def q_jn (K : Int → Int) (j w : Int) : Int := if 0 ≤ j ∧ j < K 46 - 1 then (if w = 0 then K (6 + j) else if w = 1 then K j else -1) else -1
theorem C_who {d : Nat} {m : cw_M} {Q : Option cw_V → cw_M → Prop} {K : Int → Int} (hm : la_ok m) (hK : K_r K) (hW : W_r m K) {n : Int} (h : Q (some (vi (q_who K n))) m) : cw_C (d + 1) k_C_who [vr x_, vi n] m Q := by
  have wn : m x_will_ 0 = K 46 := hW.1
  have k46 := hK.1
  refine la_go_C hm 16 [] ?_
  show cw_C _ _ [vi n, vi (m x_will_ 0)] (m) _
  refine C_isBelow (fun (a21 : 0 ≤ n) (a22 : n < m x_will_ 0) => ⟨hm, ?_⟩) (fun (a23 : ¬ (0 ≤ n ∧ n < m x_will_ 0)) => ⟨hm, ?_⟩)
  · refine br_f (show ¬ ((1 : Int) = 0) by decide) ?_
    refine And.intro (show 0 ≤ n ∧ n < 7 by omega) ?_
    show Q (some (vi (m x_will_owner_ n))) (m)
    have e : q_who K n = m x_will_owner_ n := by unfold q_who; rw [if_pos (by omega)]; exact (hW.2.1 n (by omega) (by omega)).symm
    rw [← e]
    exact h
  · refine br_t (show (0 : Int) = 0 by decide) ?_
    show Q (some (vi (-1))) (m)
    have e : q_who K n = -1 := by unfold q_who; rw [if_neg (by omega)]
    rw [← e]
    exact h
theorem C_join {d : Nat} {m : cw_M} {Q : Option cw_V → cw_M → Prop} {K : Int → Int} (hm : la_ok m) (hK : K_r K) (hW : W_r m K) {j w : Int} (h : Q (some (vi (q_jn K j w))) m) : cw_C (d + 1) k_C_join [vr x_, vi j, vi w] m Q := by
  have wn : m x_will_ 0 = K 46 := hW.1
  have k46 := hK.1
  refine la_go_C hm 20 [] ?_
  show cw_C _ _ [vr x_will_, vi j] (m) _
  refine Wi_hasJoin hm (by omega) (fun (aj : 0 ≤ j ∧ j < m x_will_ 0 - 1) => ⟨hm, ?_⟩) (fun (aj : ¬ (0 ≤ j ∧ j < m x_will_ 0 - 1)) => ⟨hm, ?_⟩)
  · refine br_t (show (1 : Int) ≠ 0 by decide) ?_
    refine And.intro (fun (c21 : w ≠ 0) => ?_) (fun (c21 : ¬ (w ≠ 0)) => ?_)
    · refine And.intro (fun (c22 : w ≠ 1) => ?_) (fun (c22 : ¬ (w ≠ 1)) => ?_)
      · show Q (some (vi (-1))) (m)
        have e : q_jn K j w = -1 := by unfold q_jn; (repeat' split) <;> first | rfl | (exfalso; omega)
        rw [← e]
        exact h
      · refine And.intro (show 0 ≤ j ∧ j < 6 by omega) ?_
        show Q (some (vi (m x_will_marks_ j))) (m)
        have e : q_jn K j w = m x_will_marks_ j := by unfold q_jn; rw [if_pos (by omega), if_neg (by omega), if_pos (by omega)]; exact (hW.2.2.2.1 j (by omega) (by omega)).symm
        rw [← e]
        exact h
    · refine And.intro (show 0 ≤ j ∧ j < 6 by omega) ?_
      show Q (some (vi (m x_will_kinds_ j))) (m)
      have e : q_jn K j w = m x_will_kinds_ j := by unfold q_jn; rw [if_pos (by omega), if_pos (by omega)]; exact (hW.2.2.1 j (by omega) (by omega)).symm
      rw [← e]
      exact h
  · refine br_f (show ¬ ((0 : Int) ≠ 0) by decide) ?_
    show Q (some (vi (-1))) (m)
    have e : q_jn K j w = -1 := by unfold q_jn; (repeat' split) <;> first | rfl | (exfalso; omega)
    rw [← e]
    exact h
theorem C_of {d : Nat} {m : cw_M} {Q : Option cw_V → cw_M → Prop} {K : Int → Int} (hm : la_ok m) (hT : ∀ j, 0 ≤ j → j < 7 → m cw_TREES j = t_c j) (hK : K_r K) (hW : W_r m K) (hZ : Z_c m K) {p w : Int} (h : ∀ M, la_ok M → V_s m M → Z_c M K → Q (some (vi (q_of K p w))) M) : cw_C (d + 10) k_C_of [vr x_, vi p, vi w] m Q := by
  have wn : m x_will_ 0 = K 46 := hW.1
  have k46 := hK.1
  refine la_go_C hm 9 [12] ?_
  show cw_C _ _ [vi p, vi 6] (m) _
  refine C_isBelow (fun (a21 : 0 ≤ p) (a22 : p < 6) => ⟨hm, ?_⟩) (fun (a23 : ¬ (0 ≤ p ∧ p < 6)) => ⟨hm, ?_⟩)
  · refine br_t (show (1 : Int) ≠ 0 by decide) ?_
    refine la_ts rfl ?_
    by_cases k0 : w = 0
    · rw [k0]
      show cw_R _ _ 40 _ _ _ _
      refine la_go_R hm 9 [12] ?_
      show cw_C _ _ [vi (m x_will_ 4), vi p] (m) _
      refine C_bit hm ⟨hm, ?_⟩
      show Q (some (vi (cw_iand (cw_ishr (m x_will_ 4) p) 1))) (m)
      have e : q_of K p 0 = cw_iand (cw_ishr (m x_will_ 4) p) 1 := by unfold q_of; rw [if_pos (by omega), if_pos rfl]; exact (hW.2.2.2.2.1.2 p (by omega) (by omega)).symm
      rw [k0] at h
      rw [← e]
      exact h m hm V_sr hZ
    by_cases k0 : w = 1
    · rw [k0]
      show cw_R _ _ 52 _ _ _ _
      refine la_go_R hm 8 [12] ?_
      show cw_C _ _ [vr x_will_, vi p] (m) _
      refine Wi_timesOf hm (by omega) ⟨hm, ?_⟩
      show Q (some (vi (f_cnt (m x_will_owner_) p (m x_will_ 0).toNat))) (m)
      have e : q_of K p 1 = f_cnt (m x_will_owner_) p (m x_will_ 0).toNat := by unfold q_of; rw [if_pos (by omega), if_neg (by decide), if_pos rfl, wn]; exact f_cntc _ (fun i a b => (hW.2.1 i a (by omega)).symm)
      rw [k0] at h
      rw [← e]
      exact h m hm V_sr hZ
    by_cases k0 : w = 2
    · rw [k0]
      show cw_R _ _ 61 _ _ _ _
      refine la_go_R hm 13 [12] ?_
      show cw_C _ _ [vr x_] (m) _
      refine C_freshen hm hT hK hW hZ (fun (X : cw_M) (hX : la_ok X) (hV : V_s m X) (hZc : Z_c X K) (h18 : X x_ 18 = 0) (h19 : X x_ 19 = 0) => ⟨hX, ?_⟩)
      show cw_C _ _ [vi (X x_ledger_paper_ 2), vi p] (X) _
      refine C_bit hX ⟨hX, ?_⟩
      show Q (some (vi (cw_iand (cw_ishr (X x_ledger_paper_ 2) p) 1))) (X)
      have eb : X x_ledger_paper_ 2 = m_B (l_br K (K 50) (K 18)) 6 := (hZc.2.2.2 h19).2.2.2.2.1
      have e : q_of K p 2 = cw_iand (cw_ishr (X x_ledger_paper_ 2) p) 1 := by
        unfold q_of
        rw [if_pos (by omega), if_neg (by decide), if_neg (by decide), if_pos rfl, eb, m_Bb (fun _ _ _ => l_br2) (by omega)]
        rcases l_br2 (K := K) (fc := K 50) (yr := K 18) (p := p) with z | z
        · rw [if_neg (by omega)]; exact z.symm
        · rw [if_pos (by omega)]; exact z.symm
      rw [k0] at h
      rw [← e]
      exact h X hX hV hZc
    rw [la_tsd (by omega)]
    show cw_R _ _ 81 _ _ _ _
    refine la_go_R hm 5 [12] ?_
    show Q (some (vi (-1))) (m)
    have e : q_of K p w = -1 := by unfold q_of; (repeat' split) <;> first | rfl | (exfalso; omega)
    rw [← e]
    exact h m hm V_sr hZ
  · refine br_f (show ¬ ((0 : Int) ≠ 0) by decide) ?_
    show Q (some (vi (-1))) (m)
    have e : q_of K p w = -1 := by unfold q_of; (repeat' split) <;> first | rfl | (exfalso; omega)
    rw [← e]
    exact h m hm V_sr hZ
theorem C_outdate {d : Nat} {m : cw_M} {Q : Option cw_V → cw_M → Prop} (hm : la_ok m) (h : Q none (cw_put (cw_put m x_ 19 1) x_settler_ 0 (-1))) : cw_C d k_C_outdate [vr x_] m Q := by
  refine la_go_C hm 11 [] ?_
  refine And.intro (Or.inr rfl) ?_
  have hm21 : la_ok (cw_put m x_ 19 1) := la_put hm (by decide) (Or.inl rfl)
  have hm22 : la_ok (cw_put (cw_put m x_ 19 1) x_settler_ 0 (-1)) := la_put hm21 (by decide) (Or.inl rfl)
  show Q none (cw_put (cw_put m x_ 19 1) x_settler_ 0 (-1))
  exact h
theorem C_rewritten {d : Nat} {m : cw_M} {Q : Option cw_V → cw_M → Prop} (hm : la_ok m) (h : Q none (cw_put (cw_put (cw_put m x_ 18 1) x_ 19 1) x_settler_ 0 (-1))) : cw_C (d + 1) k_C_rewritten [vr x_] m Q := by
  refine la_go_C hm 9 [] ?_
  refine And.intro (Or.inr rfl) ?_
  have hm21 : la_ok (cw_put m x_ 18 1) := la_put hm (by decide) (Or.inl rfl)
  show cw_C _ _ [vr x_] (cw_put m x_ 18 1) _
  refine C_outdate hm21 ⟨(la_put (la_put hm21 (by decide) (Or.inl rfl)) (by decide) (Or.inl rfl)), ?_⟩
  show Q none (cw_put (cw_put (cw_put m x_ 18 1) x_ 19 1) x_settler_ 0 (-1))
  exact h
theorem C_accept {d : Nat} {m : cw_M} {Q : Option cw_V → cw_M → Prop} (hm : la_ok m) {v : Int} (h : Q (some (vi v)) (cw_put m x_ 16 0)) : cw_C d k_C_accept [vr x_, vi v] m Q := by
  refine la_go_C hm 8 [] ?_
  have hm21 : la_ok (cw_put m x_ 16 0) := la_put hm (by decide) (Or.inl rfl)
  show Q (some (vi v)) (cw_put m x_ 16 0)
  exact h
