/-! Deaths, by the class, as memories (wip/whole/tools/m136.py). -/
theorem m_x6 : ∀ (x : Fin 64) (p : Fin 6), 0 ≤ cw_iand (x.val : Int) (cw_ixor (cw_ishl 1 (p.val : Int)) (-1)) ∧ cw_iand (x.val : Int) (cw_ixor (cw_ishl 1 (p.val : Int)) (-1)) < 64 := by decide +kernel
theorem m_xr {x p : Int} (hx : 0 ≤ x ∧ x < 64) (hp : 0 ≤ p ∧ p < 6) : 0 ≤ cw_iand x (cw_ixor (cw_ishl 1 p) (-1)) ∧ cw_iand x (cw_ixor (cw_ishl 1 p) (-1)) < 64 := by
  obtain ⟨a, rfl⟩ := m_f64 hx
  have e : p = ((⟨p.toNat, by omega⟩ : Fin 6).val : Int) := by show p = (p.toNat : Int); omega
  rw [e]
  exact m_x6 a _
theorem C_doDie {d : Nat} {m : cw_M} {Q : Option cw_V → cw_M → Prop} {p : Int} (hm : la_ok m) (hl : 0 ≤ m x_will_ 4 ∧ m x_will_ 4 < 64) (hs : 0 ≤ m x_log_ 0 ∧ m x_log_ 0 ≤ 16) (h1 : ¬ (0 ≤ p ∧ p < 6) → Q (some (vi (-1))) m) (h3 : ((0 ≤ p ∧ p < 6) ∧ cw_iand (cw_ishr (m x_will_ 4) p) 1 = 0) → Q (some (vi (-3))) m) (hok : ((0 ≤ p ∧ p < 6) ∧ cw_iand (cw_ishr (m x_will_ 4) p) 1 ≠ 0) → Q (some (vi (b_c (cw_iand (m x_will_ 4) (cw_ixor (cw_ishl 1 p) (-1)))))) (cw_put (cw_put (cw_put (lg m 2 p 1) x_will_ 4 (cw_iand (m x_will_ 4) (cw_ixor (cw_ishl 1 p) (-1)))) x_ 19 1) x_settler_ 0 (-1))) : cw_C (d + 1) k_C_doDie [vr x_, vi p] m Q := by
  refine la_go_C hm 37 [] ?_
  show cw_C _ _ [vi p, vi 6] (m) _
  refine C_isBelow (fun (a21 : 0 ≤ p) (a22 : p < 6) => ⟨hm, ?_⟩) (fun (a23 : ¬ (0 ≤ p ∧ p < 6)) => ⟨hm, ?_⟩)
  · refine br_t (show (1 : Int) ≠ 0 by decide) ?_
    show cw_C _ _ [vi (m x_will_ 4), vi p] (m) _
    refine C_bit hm ⟨hm, ?_⟩
    refine And.intro (fun (c24 : cw_iand (cw_ishr (m x_will_ 4) p) 1 ≠ 0) => ?_) (fun (c24 : ¬ (cw_iand (cw_ishr (m x_will_ 4) p) 1 ≠ 0)) => ?_)
    · show cw_C _ _ [vr x_log_, vi 2, vi p, vi 1] (m) _
      refine Lo_noteQ hm hs ⟨(lg_ok hm), ?_⟩
      have hm25 : la_ok (cw_put (lg m 2 p 1) x_will_ 4 (cw_iand ((lg m 2 p 1) x_will_ 4) (cw_ixor (cw_ishl 1 p) (-1)))) := la_put (lg_ok hm) (by decide) (Or.inl rfl)
      show cw_C _ _ [vr x_] (cw_put (lg m 2 p 1) x_will_ 4 (cw_iand ((lg m 2 p 1) x_will_ 4) (cw_ixor (cw_ishl 1 p) (-1)))) _
      refine C_outdate hm25 ⟨(la_put (la_put hm25 (by decide) (Or.inl rfl)) (by decide) (Or.inl rfl)), ?_⟩
      show cw_C _ _ [vi ((cw_put (cw_put (cw_put (lg m 2 p 1) x_will_ 4 (cw_iand ((lg m 2 p 1) x_will_ 4) (cw_ixor (cw_ishl 1 p) (-1)))) x_ 19 1) x_settler_ 0 (-1)) x_will_ 4)] (cw_put (cw_put (cw_put (lg m 2 p 1) x_will_ 4 (cw_iand ((lg m 2 p 1) x_will_ 4) (cw_ixor (cw_ishl 1 p) (-1)))) x_ 19 1) x_settler_ 0 (-1)) _
      refine Ji_bitCount (la_put (la_put hm25 (by decide) (Or.inl rfl)) (by decide) (Or.inl rfl)) (by have e : (lg m 2 p 1) x_will_ 4 = m x_will_ 4 := (by rw [lg_ne (by decide)]); show 0 ≤ cw_iand ((lg m 2 p 1) x_will_ 4) (cw_ixor (cw_ishl 1 p) (-1)) ∧ cw_iand ((lg m 2 p 1) x_will_ 4) (cw_ixor (cw_ishl 1 p) (-1)) < 64; rw [e]; exact m_xr hl (by omega)) ⟨(la_put (la_put hm25 (by decide) (Or.inl rfl)) (by decide) (Or.inl rfl)), ?_⟩
      show Q (some (vi (b_c (cw_iand ((lg m 2 p 1) x_will_ 4) (cw_ixor (cw_ishl 1 p) (-1)))))) (cw_put (cw_put (cw_put (lg m 2 p 1) x_will_ 4 (cw_iand ((lg m 2 p 1) x_will_ 4) (cw_ixor (cw_ishl 1 p) (-1)))) x_ 19 1) x_settler_ 0 (-1))
      have e : (lg m 2 p 1) x_will_ 4 = m x_will_ 4 := by rw [lg_ne (by decide)]
      rw [e]
      exact hok (by omega)
    · show Q (some (vi (-3))) (m)
      exact h3 (by omega)
  · refine br_f (show ¬ ((0 : Int) ≠ 0) by decide) ?_
    show Q (some (vi (-1))) (m)
    exact h1 (by omega)
