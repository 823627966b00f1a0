/-! A will is copied, by the class (wip/whole/tools/m157.py). -/
def cf_K : List Int := [1, 2, 3, 5, 7, 9, 10, 12]
def cf_n (k : Int) : Int := if k = 1 then 7 else if k = 5 then 4 else if k = 7 then 5 else 6
def cf_X (m : cw_M) (D S : Int) (A B : Int → Int) (F : List Int) (N : Int → Int) (X : cw_M) : Prop := (∀ c, c ≠ D → (∀ k ∈ cf_K, c ≠ A k) → X c = m c) ∧ (∀ j, X D j = if j ∈ F then m S j else m D j) ∧ ∀ k ∈ cf_K, ∀ i, X (A k) i = if 0 ≤ i ∧ i < N k then m (B k) i else m (A k) i
def cf_h (m : cw_M) (D S : Int) (A B : Int → Int) : Prop := (cw_tg D = 9 ∧ cw_tg S = 9 ∧ cw_own D ∧ D ≠ S) ∧ (∀ k ∈ cf_K, (m D k = A k ∧ m S k = B k) ∧ (A k ≠ D ∧ A k ≠ S ∧ B k ≠ D) ∧ (cw_own (A k) ∧ cw_own (B k)) ∧ (cf_n k ≤ cw_ln (A k) ∧ cf_n k ≤ cw_ln (B k)) ∧ (if k = 12 then cw_tg (A k) = 44 ∧ cw_tg (B k) = 44 else cw_tg (A k) = 40 ∧ cw_tg (B k) = 40)) ∧ ∀ k ∈ cf_K, ∀ k' ∈ cf_K, B k ≠ A k' ∧ (k ≠ k' → A k ≠ A k')
section CF
variable {m X : cw_M} {D S : Int} {A B N : Int → Int} {F : List Int}
theorem cf_S (h : cf_h m D S A B) (hX : cf_X m D S A B F N X) : X S = m S := hX.1 S (fun q => h.1.2.2.2 q.symm) (fun k hk q => (h.2.1 k hk).2.1.2.1 q.symm)
theorem cf_B (h : cf_h m D S A B) (hX : cf_X m D S A B F N X) {k : Int} (hk : k ∈ cf_K) : X (B k) = m (B k) := hX.1 _ (h.2.1 k hk).2.1.2.2 (fun k' hk' => (h.2.2 k hk k' hk').1)
theorem cf_D (h : cf_h m D S A B) (hX : cf_X m D S A B F N X) {k : Int} (hk : k ∈ cf_K) (hF : k ∉ F) : X D k = A k := by rw [hX.2.1 k, if_neg hF]; exact (h.2.1 k hk).1.1
theorem cf_SB (h : cf_h m D S A B) (hX : cf_X m D S A B F N X) {k : Int} (hk : k ∈ cf_K) : X S k = B k := by rw [cf_S h hX]; exact (h.2.1 k hk).1.2
theorem cf_p (h : cf_h m D S A B) (hX : cf_X m D S A B F N X) (j : Int) : cf_X m D S A B (j :: F) N (cw_put X D j (X S j)) := by
  refine ⟨fun c a b => by rw [cw_put_ne a]; exact hX.1 c a b, fun i => ?_, fun k hk i => by rw [cw_put_ne (h.2.1 k hk).2.1.1]; exact hX.2.2 k hk i⟩
  by_cases e : i = j
  · rw [e, cw_put_eq, if_pos (List.mem_cons_self ..), cf_S h hX]
  · rw [cw_put_off e, hX.2.1 i]
    by_cases q : i ∈ F
    · rw [if_pos q, if_pos (List.mem_cons_of_mem _ q)]
    · rw [if_neg q, if_neg (fun z => (List.mem_cons.mp z).elim e q)]
theorem cf_c (h : cf_h m D S A B) (hX : cf_X m D S A B F N X) {k : Int} (hk : k ∈ cf_K) (hN : N k = 0) : cf_X m D S A B F (cw_up N k (cf_n k)) (cw_cpy X (B k) 0 (A k) 0 (cf_n k)) := by
  refine ⟨fun c a b => by rw [cw_cpy_ne (b k hk)]; exact hX.1 c a b, fun i => by rw [cw_cpy_ne (fun q => (h.2.1 k hk).2.1.1 q.symm)]; exact hX.2.1 i, fun k' hk' i => ?_⟩
  by_cases e : k' = k
  · subst e
    rw [cw_cpy_row, cw_row_eq, cw_up_eq]
    show (if 0 ≤ i ∧ i < 0 + cf_n k' then X (B k') (0 + (i - 0)) else X (A k') i) = _
    rw [cf_B h hX hk', Int.zero_add, Int.zero_add, Int.sub_zero]
    by_cases q : 0 ≤ i ∧ i < cf_n k'
    · rw [if_pos q, if_pos q]
    · rw [if_neg q, if_neg q, hX.2.2 k' hk' i, if_neg (by omega)]
  · rw [cw_cpy_ne ((h.2.2 k' hk' k hk).2 e), cw_up_ne e]; exact hX.2.2 k' hk' i
theorem cf_l (h : cf_h m D S A B) (hX : cf_X m D S A B F N X) {i : Int} (hi : 0 ≤ i) (hN : N 12 = i) : cf_X m D S A B F (cw_up N 12 (i + 1)) (cw_put X (A 12) i (X (B 12) i)) := by
  have h12 : (12 : Int) ∈ cf_K := by decide
  refine ⟨fun c a b => by rw [cw_put_ne (b 12 h12)]; exact hX.1 c a b, fun j => by rw [cw_put_ne (fun q => (h.2.1 12 h12).2.1.1 q.symm)]; exact hX.2.1 j, fun k' hk' j => ?_⟩
  by_cases e : k' = 12
  · subst e
    rw [cw_up_eq]
    by_cases q : j = i
    · rw [q, cw_put_eq, if_pos (by omega), cf_B h hX h12]
    · rw [cw_put_off q, hX.2.2 12 h12 j, hN]
      by_cases z : 0 ≤ j ∧ j < i
      · rw [if_pos z, if_pos (by omega)]
      · rw [if_neg z, if_neg (by omega)]
  · rw [cw_put_ne ((h.2.2 k' hk' 12 h12).2 e), cw_up_ne e]; exact hX.2.2 k' hk' j
theorem cf_0 : cf_X m D S A B [] (fun _ => 0) m := ⟨fun _ _ _ => rfl, fun j => by rw [if_neg (fun z => by cases z)], fun k _ i => by rw [if_neg (show ¬ (0 ≤ i ∧ i < 0) by omega)]⟩
end CF
theorem cw_upup {f : Int → Int} {k a b : Int} : cw_up (cw_up f k a) k b = cw_up f k b := by
  funext j
  by_cases e : j = k
  · rw [e, cw_up_eq, cw_up_eq]
  · rw [cw_up_ne e, cw_up_ne e, cw_up_ne e]
theorem cw_upself {f : Int → Int} {k a : Int} (h : f k = a) : cw_up f k a = f := by
  funext j
  by_cases e : j = k
  · rw [e, cw_up_eq, h]
  · rw [cw_up_ne e]
theorem cf_145 {d : Nat} {m : cw_M} {Q : Option cw_V → cw_M → Prop} {D S : Int} {A B N : Int → Int} (h : cf_h m D S A B) (hv : ∀ i, 0 ≤ i → i < 6 → m (B 12) i = 0 ∨ cw_tg (m (B 12) i) = 8) (hQ : ∀ X, cf_X m D S A B (13 :: [11, 8, 6, 4, 0]) (cw_up N 12 6) X → Q none X) : ∀ (r : Nat) (i : Int) (X : cw_M), 6 < i + r → (0 ≤ i ∧ i ≤ 6) → cf_X m D S A B [11, 8, 6, 4, 0] (cw_up N 12 i) X → cw_R d k_Wi_copyFrom 145 [vr D, vr S, vi i] [] X Q := by
  have h12 : (12 : Int) ∈ cf_K := by decide
  have k12 := h.2.1 12 h12
  have e6 : cf_n 12 = 6 := rfl
  have kt : cw_tg (A 12) = 44 ∧ cw_tg (B 12) = 44 := by have z := k12.2.2.2.2; rw [if_pos rfl] at z; exact z
  intro r
  induction r with
  | zero => intro i X hr hi; omega
  | succ r ih =>
    intro i X hr hi hX
    refine cw_go_R 14 [145] ?_
    refine And.intro (fun (q : 6 ≤ i) => ?_) (fun (q : ¬ 6 ≤ i) => ?_)
    · refine And.intro h.1.2.1 (And.intro ⟨h.1.1, h.1.2.2.1⟩ ?_)
      show Q none (cw_put X D 13 (X S 13))
      rw [show i = 6 by omega] at hX
      exact hQ _ (cf_p h hX 13)
    · have eS := cf_SB h hX h12
      have eD := cf_D h hX h12 (by decide)
      have eB := cf_B h hX h12
      refine And.intro h.1.1 (And.intro h.1.2.1 (And.intro ?_ (And.intro ?_ ?_)))
      · show (cw_tg (X S 12) = 44 ∨ cw_tg (X S 12) = 45) ∧ 0 ≤ i ∧ i < cw_ln (X S 12)
        rw [eS]
        exact ⟨Or.inl kt.2, hi.1, by have := k12.2.2.2.1.2; omega⟩
      · show ((cw_tg (X D 12) = 44 ∧ (X (X S 12) i = 0 ∨ cw_tg (X (X S 12) i) = 8) ∨ cw_tg (X D 12) = 45 ∧ (X (X S 12) i = 0 ∨ cw_tg (X (X S 12) i) = 9)) ∧ cw_own (X D 12)) ∧ 0 ≤ i ∧ i < cw_ln (X D 12)
        rw [eS, eD, eB]
        exact ⟨⟨Or.inl ⟨kt.1, hv i hi.1 (by omega)⟩, k12.2.2.1.1⟩, hi.1, by have := k12.2.2.2.1.1; omega⟩
      · show cw_R _ _ 145 [vr D, vr S, vi (cw_w (i + 1))] [] (cw_put X (X D 12) i (X (X S 12) i)) _
        rw [eS, eD, show cw_w (i + 1) = i + 1 by unfold cw_w; omega]
        have z := cf_l h hX hi.1 cw_up_eq
        rw [cw_upup] at z
        exact ih (i + 1) _ (by omega) (by omega) z
/-- a will stands in another one's place -/
def cf_Z (m : cw_M) (D S : Int) (A B : Int → Int) (X : cw_M) : Prop := (∀ c, c ≠ D → (∀ k ∈ cf_K, c ≠ A k) → X c = m c) ∧ (∀ j, X D j = if j ∈ [13, 11, 8, 6, 4, 0] then m S j else m D j) ∧ ∀ k ∈ cf_K, ∀ i, X (A k) i = if 0 ≤ i ∧ i < cf_n k then m (B k) i else m (A k) i
theorem Wi_copyFrom {d : Nat} {m : cw_M} {Q : Option cw_V → cw_M → Prop} {D S : Int} {A B : Int → Int} (h : cf_h m D S A B) (hv : ∀ i, 0 ≤ i → i < 6 → m (B 12) i = 0 ∨ cw_tg (m (B 12) i) = 8) (hQ : ∀ X, cf_Z m D S A B X → Q none X) : cw_C d k_Wi_copyFrom [vr D, vr S] m Q := by
  have c0 := cf_0 (m := m) (D := D) (S := S) (A := A) (B := B)
  refine cw_go_C 4 [8] ?_
  refine And.intro h.1.2.1 (And.intro ⟨h.1.1, h.1.2.2.1⟩ ?_)
  have c1 := cf_p h c0 0
  show cw_R _ _ 8 [vr D, vr S, none] [] (cw_put m D 0 (m S 0)) _
  generalize cw_put m D 0 (m S 0) = X1 at *
  refine cw_go_R 8 [23] ?_
  have k1 := h.2.1 1 (by decide)
  have eS1 := cf_SB h c1 (show (1 : Int) ∈ cf_K by decide)
  have eD1 := cf_D h c1 (show (1 : Int) ∈ cf_K by decide) (by decide)
  refine And.intro h.1.2.1 (And.intro h.1.1 (And.intro ?_ ?_))
  · rw [eS1, eD1]
    exact ⟨⟨k1.2.2.2.2.2, k1.2.2.2.2.1, k1.2.2.1.2, k1.2.2.1.1⟩, by decide, k1.2.2.2.1.2, k1.2.2.2.1.1⟩
  have c2 := cf_c h c1 (show (1 : Int) ∈ cf_K by decide) rfl
  refine la_go_R0 (m' := cw_cpy X1 (B 1) 0 (A 1) 0 (cf_n 1)) (by rw [eS1, eD1]; rfl) ?_
  generalize cw_cpy X1 (B 1) 0 (A 1) 0 (cf_n 1) = X2 at *
  refine cw_go_R 8 [38] ?_
  have k2 := h.2.1 2 (by decide)
  have eS2 := cf_SB h c2 (show (2 : Int) ∈ cf_K by decide)
  have eD2 := cf_D h c2 (show (2 : Int) ∈ cf_K by decide) (by decide)
  refine And.intro h.1.2.1 (And.intro h.1.1 (And.intro ?_ ?_))
  · rw [eS2, eD2]
    exact ⟨⟨k2.2.2.2.2.2, k2.2.2.2.2.1, k2.2.2.1.2, k2.2.2.1.1⟩, by decide, k2.2.2.2.1.2, k2.2.2.2.1.1⟩
  have c3 := cf_c h c2 (show (2 : Int) ∈ cf_K by decide) rfl
  refine la_go_R0 (m' := cw_cpy X2 (B 2) 0 (A 2) 0 (cf_n 2)) (by rw [eS2, eD2]; rfl) ?_
  generalize cw_cpy X2 (B 2) 0 (A 2) 0 (cf_n 2) = X3 at *
  refine cw_go_R 8 [53] ?_
  have k3 := h.2.1 3 (by decide)
  have eS3 := cf_SB h c3 (show (3 : Int) ∈ cf_K by decide)
  have eD3 := cf_D h c3 (show (3 : Int) ∈ cf_K by decide) (by decide)
  refine And.intro h.1.2.1 (And.intro h.1.1 (And.intro ?_ ?_))
  · rw [eS3, eD3]
    exact ⟨⟨k3.2.2.2.2.2, k3.2.2.2.2.1, k3.2.2.1.2, k3.2.2.1.1⟩, by decide, k3.2.2.2.1.2, k3.2.2.2.1.1⟩
  have c4 := cf_c h c3 (show (3 : Int) ∈ cf_K by decide) rfl
  refine la_go_R0 (m' := cw_cpy X3 (B 3) 0 (A 3) 0 (cf_n 3)) (by rw [eS3, eD3]; rfl) ?_
  generalize cw_cpy X3 (B 3) 0 (A 3) 0 (cf_n 3) = X4 at *
  refine cw_go_R 4 [61] ?_
  refine And.intro h.1.2.1 (And.intro ⟨h.1.1, h.1.2.2.1⟩ ?_)
  have c5 := cf_p h c4 4
  show cw_R _ _ 61 [vr D, vr S, none] [] (cw_put X4 D 4 (X4 S 4)) _
  generalize cw_put X4 D 4 (X4 S 4) = X5 at *
  refine cw_go_R 8 [75] ?_
  have k5 := h.2.1 5 (by decide)
  have eS5 := cf_SB h c5 (show (5 : Int) ∈ cf_K by decide)
  have eD5 := cf_D h c5 (show (5 : Int) ∈ cf_K by decide) (by decide)
  refine And.intro h.1.2.1 (And.intro h.1.1 (And.intro ?_ ?_))
  · rw [eS5, eD5]
    exact ⟨⟨k5.2.2.2.2.2, k5.2.2.2.2.1, k5.2.2.1.2, k5.2.2.1.1⟩, by decide, k5.2.2.2.1.2, k5.2.2.2.1.1⟩
  have c6 := cf_c h c5 (show (5 : Int) ∈ cf_K by decide) rfl
  refine la_go_R0 (m' := cw_cpy X5 (B 5) 0 (A 5) 0 (cf_n 5)) (by rw [eS5, eD5]; rfl) ?_
  generalize cw_cpy X5 (B 5) 0 (A 5) 0 (cf_n 5) = X6 at *
  refine cw_go_R 4 [83] ?_
  refine And.intro h.1.2.1 (And.intro ⟨h.1.1, h.1.2.2.1⟩ ?_)
  have c7 := cf_p h c6 6
  show cw_R _ _ 83 [vr D, vr S, none] [] (cw_put X6 D 6 (X6 S 6)) _
  generalize cw_put X6 D 6 (X6 S 6) = X7 at *
  refine cw_go_R 8 [97] ?_
  have k7 := h.2.1 7 (by decide)
  have eS7 := cf_SB h c7 (show (7 : Int) ∈ cf_K by decide)
  have eD7 := cf_D h c7 (show (7 : Int) ∈ cf_K by decide) (by decide)
  refine And.intro h.1.2.1 (And.intro h.1.1 (And.intro ?_ ?_))
  · rw [eS7, eD7]
    exact ⟨⟨k7.2.2.2.2.2, k7.2.2.2.2.1, k7.2.2.1.2, k7.2.2.1.1⟩, by decide, k7.2.2.2.1.2, k7.2.2.2.1.1⟩
  have c8 := cf_c h c7 (show (7 : Int) ∈ cf_K by decide) rfl
  refine la_go_R0 (m' := cw_cpy X7 (B 7) 0 (A 7) 0 (cf_n 7)) (by rw [eS7, eD7]; rfl) ?_
  generalize cw_cpy X7 (B 7) 0 (A 7) 0 (cf_n 7) = X8 at *
  refine cw_go_R 4 [105] ?_
  refine And.intro h.1.2.1 (And.intro ⟨h.1.1, h.1.2.2.1⟩ ?_)
  have c9 := cf_p h c8 8
  show cw_R _ _ 105 [vr D, vr S, none] [] (cw_put X8 D 8 (X8 S 8)) _
  generalize cw_put X8 D 8 (X8 S 8) = X9 at *
  refine cw_go_R 8 [120] ?_
  have k9 := h.2.1 9 (by decide)
  have eS9 := cf_SB h c9 (show (9 : Int) ∈ cf_K by decide)
  have eD9 := cf_D h c9 (show (9 : Int) ∈ cf_K by decide) (by decide)
  refine And.intro h.1.2.1 (And.intro h.1.1 (And.intro ?_ ?_))
  · rw [eS9, eD9]
    exact ⟨⟨k9.2.2.2.2.2, k9.2.2.2.2.1, k9.2.2.1.2, k9.2.2.1.1⟩, by decide, k9.2.2.2.1.2, k9.2.2.2.1.1⟩
  have c10 := cf_c h c9 (show (9 : Int) ∈ cf_K by decide) rfl
  refine la_go_R0 (m' := cw_cpy X9 (B 9) 0 (A 9) 0 (cf_n 9)) (by rw [eS9, eD9]; rfl) ?_
  generalize cw_cpy X9 (B 9) 0 (A 9) 0 (cf_n 9) = X10 at *
  refine cw_go_R 8 [135] ?_
  have k10 := h.2.1 10 (by decide)
  have eS10 := cf_SB h c10 (show (10 : Int) ∈ cf_K by decide)
  have eD10 := cf_D h c10 (show (10 : Int) ∈ cf_K by decide) (by decide)
  refine And.intro h.1.2.1 (And.intro h.1.1 (And.intro ?_ ?_))
  · rw [eS10, eD10]
    exact ⟨⟨k10.2.2.2.2.2, k10.2.2.2.2.1, k10.2.2.1.2, k10.2.2.1.1⟩, by decide, k10.2.2.2.1.2, k10.2.2.2.1.1⟩
  have c11 := cf_c h c10 (show (10 : Int) ∈ cf_K by decide) rfl
  refine la_go_R0 (m' := cw_cpy X10 (B 10) 0 (A 10) 0 (cf_n 10)) (by rw [eS10, eD10]; rfl) ?_
  generalize cw_cpy X10 (B 10) 0 (A 10) 0 (cf_n 10) = X11 at *
  refine cw_go_R 4 [143] ?_
  refine And.intro h.1.2.1 (And.intro ⟨h.1.1, h.1.2.2.1⟩ ?_)
  have c12 := cf_p h c11 11
  show cw_R _ _ 143 [vr D, vr S, none] [] (cw_put X11 D 11 (X11 S 11)) _
  generalize cw_put X11 D 11 (X11 S 11) = X12 at *
  refine cw_go_R 2 [145] ?_
  show cw_R _ _ 145 [vr D, vr S, vi 0] [] X12 _
  have cz : cw_up (cw_up (cw_up (cw_up (cw_up (cw_up (cw_up (cw_up (fun _ => 0) 1 (cf_n 1)) 2 (cf_n 2)) 3 (cf_n 3)) 5 (cf_n 5)) 7 (cf_n 7)) 9 (cf_n 9)) 10 (cf_n 10)) 12 0 = (cw_up (cw_up (cw_up (cw_up (cw_up (cw_up (cw_up (fun _ => 0) 1 (cf_n 1)) 2 (cf_n 2)) 3 (cf_n 3)) 5 (cf_n 5)) 7 (cf_n 7)) 9 (cf_n 9)) 10 (cf_n 10)) := cw_upself rfl
  rw [← cz] at c12
  refine cf_145 h hv (fun X hX => hQ X ⟨hX.1, hX.2.1, fun k hk i => ?_⟩) 7 0 X12 (by decide) (by decide) c12
  have zk : ∀ k ∈ cf_K, cw_up (cw_up (cw_up (cw_up (cw_up (cw_up (cw_up (cw_up (fun _ => 0) 1 (cf_n 1)) 2 (cf_n 2)) 3 (cf_n 3)) 5 (cf_n 5)) 7 (cf_n 7)) 9 (cf_n 9)) 10 (cf_n 10)) 12 6 k = cf_n k := by decide
  rw [← zk k hk]
  exact hX.2.2 k hk i
