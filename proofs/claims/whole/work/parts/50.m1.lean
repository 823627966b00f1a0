/-! Methods of the reference: the small ones. -/
theorem M_lies {d : Nat} {m : cw_M} {v lo hi : Int} {Q : Option cw_V → cw_M → Prop} (h1 : lo ≤ v → v ≤ hi → Q (some (vi 1)) m) (h0 : ¬ (lo ≤ v ∧ v ≤ hi) → Q (some (vi 0)) m) : cw_C d k_M_lies [vi v, vi lo, vi hi] m Q := by
  refine cw_go_C 12 [] ?_
  refine And.intro (fun c => ⟨Or.inl rfl, h0 (by omega)⟩) (fun c => ?_)
  refine And.intro (fun c2 => ⟨Or.inl rfl, h0 (by omega)⟩) (fun c2 => ⟨Or.inr rfl, h1 (by omega) (by omega)⟩)
theorem M_isPerson {d : Nat} {m : cw_M} {v : Int} {Q : Option cw_V → cw_M → Prop} (h1 : 0 ≤ v → v ≤ 5 → Q (some (vi 1)) m) (h0 : ¬ (0 ≤ v ∧ v ≤ 5) → Q (some (vi 0)) m) : cw_C (d + 1) k_M_isPerson [vi v] m Q := by
  refine cw_go_C 12 [] ?_
  exact M_lies (fun a b => ⟨Or.inr rfl, h1 a b⟩) (fun a => ⟨Or.inl rfl, h0 a⟩)
theorem M_greater {d : Nat} {m : cw_M} {a b : Int} {Q : Option cw_V → cw_M → Prop} (h : Q (some (vi (max a b))) m) : cw_C d k_M_greater [vi a, vi b] m Q := by
  refine cw_go_C 12 [] ?_
  refine And.intro (fun c => ?_) (fun c => ?_)
  · rw [show max a b = b by omega] at h; exact h
  · rw [show max a b = a by omega] at h; exact h
theorem M_lesser {d : Nat} {m : cw_M} {a b : Int} {Q : Option cw_V → cw_M → Prop} (h : Q (some (vi (min a b))) m) : cw_C d k_M_lesser [vi a, vi b] m Q := by
  refine cw_go_C 12 [] ?_
  refine And.intro (fun c => ?_) (fun c => ?_)
  · rw [show min a b = b by omega] at h; exact h
  · rw [show min a b = a by omega] at h; exact h
theorem M_many {d : Nat} {m : cw_M} {Q : Option cw_V → cw_M → Prop} (hm : la_ok m) (h : Q (some (vi (m m_kept_ 46))) m) : cw_C d k_M_many [vr m_] m Q := by
  refine la_go_C hm 12 [] ?_
  exact ⟨by decide, h⟩
theorem M_good {d : Nat} {m : cw_M} {v : Int} {Q : Option cw_V → cw_M → Prop} (hm : la_ok m) (h : Q (some (vi v)) (cw_put m m_ 0 0)) : cw_C d k_M_good [vr m_, vi v] m Q := by
  refine la_go_C hm 12 [] ?_
  exact h
theorem M_settled {d : Nat} {m : cw_M} {v : Int} {Q : Option cw_V → cw_M → Prop} (hm : la_ok m) (h : Q (some (vi v)) (cw_put (cw_put m m_ 44 0) m_ 0 0)) : cw_C (d + 1) k_M_settled [vr m_, vi v] m Q := by
  refine la_go_C hm 12 [] ?_
  have hm2 : la_ok (cw_put m m_ 44 0) := la_put hm (by decide) (Or.inl rfl)
  exact M_good hm2 ⟨la_put hm2 (by decide) (Or.inl rfl), h⟩
theorem M_refuses {d : Nat} {m : cw_M} {k : Int} {Q : Option cw_V → cw_M → Prop} (hm : la_ok m) (hk : -6 ≤ k ∧ k ≤ 0) (hr : 0 ≤ m m_refused_ (-k) ∧ m m_refused_ (-k) < 1000) (h : Q (some (vi k)) (cw_put (cw_put m m_ 0 k) m_refused_ (-k) (m m_refused_ (-k) + 1))) : cw_C d k_M_refuses [vr m_, vi k] m Q := by
  refine la_go_C hm 20 [] ?_
  refine And.intro (by omega) ?_
  refine And.intro ⟨by omega, by show -k < 7; omega⟩ ?_
  refine And.intro (show -2147483648 ≤ m m_refused_ (-k) + 1 ∧ m m_refused_ (-k) + 1 < 2147483648 by omega) ?_
  refine And.intro ⟨by omega, by show -k < 7; omega⟩ ?_
  exact h
theorem M_joinMany {d : Nat} {m : cw_M} {Q : Option cw_V → cw_M → Prop} (hm : la_ok m) (hn : 0 ≤ m m_kept_ 46 ∧ m m_kept_ 46 ≤ 7) (h : Q (some (vi (max 0 (m m_kept_ 46 - 1)))) m) : cw_C (d + 1) k_M_joinMany [vr m_] m Q := by
  refine la_go_C hm 12 [] ?_
  refine M_many hm ⟨hm, ?_⟩
  refine And.intro (by omega) ?_
  exact M_greater ⟨hm, h⟩
theorem M_isJoin {d : Nat} {m : cw_M} {j : Int} {Q : Option cw_V → cw_M → Prop} (hm : la_ok m) (hn : 0 ≤ m m_kept_ 46 ∧ m m_kept_ 46 ≤ 7) (h1 : 0 ≤ j → j < m m_kept_ 46 - 1 → Q (some (vi 1)) m) (h0 : ¬ (0 ≤ j ∧ j < m m_kept_ 46 - 1) → Q (some (vi 0)) m) : cw_C (d + 2) k_M_isJoin [vr m_, vi j] m Q := by
  refine la_go_C hm 12 [] ?_
  refine M_joinMany hm hn ⟨hm, ?_⟩
  refine And.intro (by omega) ?_
  exact M_lies (fun a b => ⟨hm, Or.inr rfl, h1 (by omega) (by omega)⟩) (fun a => ⟨hm, Or.inl rfl, h0 (by omega)⟩)
theorem M_canBe {d : Nat} {m : cw_M} {k j p : Int} {Q : Option cw_V → cw_M → Prop} (hm : la_ok m) (h1 : 0 ≤ p ∧ p ≤ 5 → 0 ≤ k ∧ k ≤ 2 → 0 ≤ j ∧ j ≤ 3 → (0 < m m_kept_ 46 ∨ k = 0 ∧ j = 0) → Q (some (vi 1)) m) (h0 : ¬ ((0 ≤ p ∧ p ≤ 5) ∧ (0 ≤ k ∧ k ≤ 2) ∧ (0 ≤ j ∧ j ≤ 3) ∧ (0 < m m_kept_ 46 ∨ k = 0 ∧ j = 0)) → Q (some (vi 0)) m) : cw_C (d + 2) k_M_canBe [vr m_, vi k, vi j, vi p] m Q := by
  refine la_go_C hm 40 [] ?_
  refine M_isPerson (fun a1 a2 => ⟨hm, ?_⟩) (fun a => ⟨hm, ?_⟩)
  · refine br_f (by decide) ?_
    refine M_lies (fun b1 b2 => ⟨hm, ?_⟩) (fun b => ⟨hm, ?_⟩)
    · refine br_f (by decide) ?_
      refine M_lies (fun c1 c2 => ⟨hm, ?_⟩) (fun c => ⟨hm, ?_⟩)
      · refine br_f (by decide) ?_
        refine br_f (by decide) ?_
        refine M_many hm ⟨hm, ?_⟩
        refine And.intro (fun e => ⟨Or.inr rfl, h1 ⟨a1, a2⟩ ⟨b1, b2⟩ ⟨c1, c2⟩ (Or.inl e)⟩) (fun e => ?_)
        refine And.intro (fun f => ⟨Or.inl rfl, h0 (by omega)⟩) (fun f => ?_)
        refine And.intro (fun g => ⟨Or.inl rfl, h0 (by omega)⟩) (fun g => ⟨Or.inr rfl, h1 ⟨a1, a2⟩ ⟨b1, b2⟩ ⟨c1, c2⟩ (Or.inr ⟨by omega, by omega⟩)⟩)
      · refine br_t (by decide) ?_
        refine br_t (by decide) ?_
        exact ⟨Or.inl rfl, h0 (by omega)⟩
    · refine br_t (by decide) ?_
      refine br_t (by decide) ?_
      exact ⟨Or.inl rfl, h0 (by omega)⟩
  · refine br_t (by decide) ?_
    refine br_t (by decide) ?_
    exact ⟨Or.inl rfl, h0 (by omega)⟩
