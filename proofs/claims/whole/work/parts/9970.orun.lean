/-! Orders are run, by the class (wip/whole/tools/m170.py). -/
def O_T (M X : cw_M) (L0 : Int → Int) (u0 B : Int) (s : o_S) : Prop := O_G M X ∧ O_R X s.1 (d_L s.2.1 L0 u0).1 (d_L s.2.1 L0 u0).2 ∧ (X x_orderSums_words_ 1 = s.2.2.1 ∧ X x_orderSums_words_ 2 = s.2.2.2) ∧ (0 ≤ s.2.2.1 ∧ s.2.2.1 ≤ B) ∧ -1 ≤ s.2.2.2 ∧ s.2.2.2 ≤ 132
theorem o_nt {k : p_K} {s : o_S} (h : -1 ≤ s.2.2.2 ∧ s.2.2.2 ≤ 132) (hR : K_r (o_n k s).1) : -1 ≤ (o_n k s).2.2.2 ∧ (o_n k s).2.2.2 ≤ 132 := by
  show -1 ≤ (if k.1 = 0 then ((R_K (o_n k s).1).length : Int) else s.2.2.2) ∧ (if k.1 = 0 then ((R_K (o_n k s).1).length : Int) else s.2.2.2) ≤ 132
  have := (R_Kr hR).1
  split <;> omega
theorem o_tS {k : p_K} {n : Nat} {s : o_S} : (o_1 k s = none → o_t k (n + 1) s = none) ∧ ∀ s', o_1 k s = some s' → o_t k (n + 1) s = o_t k n s' := by
  constructor
  · intro h
    show (match o_1 k s with | none => none | some s' => o_t k n s') = none
    rw [h]
  · intro s' h
    show (match o_1 k s with | none => none | some s' => o_t k n s') = _
    rw [h]
theorem o_lS {k : p_K} {t : List p_K} {i : Int} {s : o_S} : (o_t k k.2.2.2.1.toNat s = none → o_l (k :: t) i s = .error i) ∧ ∀ s', o_t k k.2.2.2.1.toNat s = some s' → o_l (k :: t) i s = o_l t (i + 1) s' := by
  constructor
  · intro h
    show (match o_t k k.2.2.2.1.toNat s with | none => Except.error i | some s' => o_l t (i + 1) s') = _
    rw [h]
  · intro s' h
    show (match o_t k k.2.2.2.1.toNat s with | none => Except.error i | some s' => o_l t (i + 1) s') = _
    rw [h]
theorem p_resth {c v : Int → Int} {n : Int} : ∀ (f : Nat) {k i l : Int} {acc Ks : List p_K}, (∀ K ∈ acc, (0 ≤ K.1 ∧ K.1 ≤ 3) ∧ 1 ≤ K.2.2.2.1 ∧ K.2.2.2.1 ≤ 20) → p_rest c v true n f k i l acc = .ok Ks → ∀ K ∈ Ks, (0 ≤ K.1 ∧ K.1 ≤ 3) ∧ 1 ≤ K.2.2.2.1 ∧ K.2.2.2.1 ≤ 20
  | 0, k, i, l, acc, Ks, ha, h => by cases h
  | f + 1, k, i, l, acc, Ks, ha, h => by
    unfold p_rest at h
    split at h
    · split at h
      · cases h
      · split at h
        · cases h
        · rename_i i1 l1 K e
          refine p_resth f (fun K2 q => ?_) h
          rcases List.mem_append.mp q with q | q
          · exact ha K2 q
          · rw [List.mem_singleton.mp q]
            have z := p_oneh e
            exact ⟨z.1, z.2.2⟩
    · split at h
      · cases h
      · injection h with h
        subst h
        exact ha
theorem p_allh {c v : Int → Int} {n : Int} {Ks : List p_K} (h : p_all c v true n = .ok Ks) : ∀ K ∈ Ks, (0 ≤ K.1 ∧ K.1 ≤ 3) ∧ 1 ≤ K.2.2.2.1 ∧ K.2.2.2.1 ≤ 20 := by
  unfold p_all at h
  split at h
  · cases h
  · rename_i i1 l1 K e
    refine p_resth 13 (fun K2 q => ?_) h
    rw [List.mem_singleton.mp q]
    have z := p_oneh e
    exact ⟨z.1, z.2.2⟩
theorem gd_1 {r : Option Int} : r.getD (-2000000000) = 1 ↔ r = some 1 := by
  cases r with
  | none => exact ⟨fun h => absurd h (by decide), fun h => by cases h⟩
  | some x => exact ⟨fun h => by rw [show x = 1 from h], fun h => by injection h⟩
theorem C_runClause {d : Nat} {m : cw_M} {Q : Option cw_V → cw_M → Prop} {K L : Int → Int} {un dn lt c : Int} {D : List o_D} {Ks : List p_K} {k : p_K} (hR : O_R m K L un) (hT : ∀ j, 0 ≤ j → j < 7 → m cw_TREES j = t_c j) (hc9 : m cw_TERM 0 = 999) (ht : X_t true m Ks) (hc : 0 ≤ c ∧ c < 12) (hk : Ks[c.toNat]? = some k) (hw : ∀ i, 0 ≤ i → i < 17 → m x_orderSums_words_ i = (o_E K dn lt) i) (hdn : 0 ≤ dn ∧ dn ≤ 1000) (hlt : -1 ≤ lt ∧ lt ≤ 132) (hno : o_2 k (K, D, dn, lt) = none → ∀ Y, O_G m Y → O_R Y K L un → Q (some (vi 0)) Y) (hyes : o_2 k (K, D, dn, lt) = some (o_n k (K, D, dn, lt)) → ∀ Y, O_G m Y → O_R Y (o_n k (K, D, dn, lt)).1 (kp_l L un K k.1) (kp_n un + 1) → Y x_orderSums_words_ 1 = dn → Y x_orderSums_words_ 2 = (o_n k (K, D, dn, lt)).2.2.2 → Q (some (vi 1)) Y) (hh : 0 ≤ k.1 ∧ k.1 ≤ 3) : cw_C (d + 10) k_C_runClause [vr x_, vr x_reader_text_, vi c] m Q := by
  rcases (by omega : k.1 = 0 ∨ k.1 = 1 ∨ k.1 = 2 ∨ k.1 = 3) with e | e | e | e
  · exact C_runClause0 hR hT hc9 ht hc hk hw hdn hlt hno hyes e
  · exact C_runClause1 hR hT hc9 ht hc hk hw hdn hlt hno hyes e
  · exact C_runClause2 hR hT hc9 ht hc hk hw hdn hlt hno hyes e
  · exact C_runClause3 hR hT hc9 ht hc hk hw hdn hlt hno hyes e
theorem C_run32n {d : Nat} {M X : cw_M} {Q : Option cw_V → cw_M → Prop} {L0 : Int → Int} {u0 c : Int} {s : o_S} {Ks : List p_K} {k : p_K} {RR : Option o_S} (hT : ∀ j, 0 ≤ j → j < 7 → M cw_TREES j = t_c j) (hc9 : M cw_TERM 0 = 999) (ht : X_t true M Ks) (hc : 0 ≤ c ∧ c < 12) (hk : Ks[c.toNat]? = some k) (hh : 0 ≤ k.1 ∧ k.1 ≤ 3) (hrp : 1 ≤ k.2.2.2.1 ∧ k.2.2.2.1 ≤ 20) (no : RR = none → ∀ Y K L un, O_G M Y → O_R Y K L un → Q (some (vi (-1))) (cw_put Y x_ 15 c)) (nx : ∀ s' X j, RR = some s' → j ≤ 20 → O_T M X L0 u0 (20 * c + j) s' → cw_R (d + 11) k_C_runOrders 112 [vr x_, vr x_reader_text_, vi c, vi j] [] X Q) (hS0 : O_T M X L0 u0 (20 * c) s) (hR0 : o_t k k.2.2.2.1.toNat s = RR) (hTt : k.2.2.2.2 = none) : cw_R (d + 11) k_C_runOrders 32 [vr x_, vr x_reader_text_, vi c, vi 0] [] X Q := by
  have cl := ht.1 c.toNat k hk
  rw [show ((c.toNat : Nat) : Int) = c by omega] at cl
  obtain ⟨ehd, ere, efi, ese, ete⟩ := cl
  rw [hTt] at ete
  have pT : M x_reader_text_test_ c = -1 := ete
  have lp : ∀ (r : Nat) (j : Int) (X : cw_M) (s : o_S), k.2.2.2.1 < j + r → (0 ≤ j ∧ j ≤ k.2.2.2.1) → (O_T M X L0 u0 (20 * c + j) s) → (o_t k (k.2.2.2.1 - j).toNat s = RR) → cw_R (d + 11) k_C_runOrders 32 [vr x_, vr x_reader_text_, vi c, vi j] [] X Q := by
    intro r
    induction r with
    | zero =>
      intro j X s hr hj hS hRR
      omega
    | succ r ih =>
      intro j X s hr hj hS hRR
      have er : X x_reader_text_repeats_ c = k.2.2.2.1 := by rw [hS.1.1 _ (by decide) (by decide) (by decide)]; exact ere
      have hd : k_hd k.2.2.2.2 (o_E s.1 s.2.2.1 s.2.2.2) := fun t q => by rw [hTt] at q; cases q
      refine la_go_R hS.2.1.1 33 [32, 112] ?_
      refine And.intro (show 0 ≤ c ∧ c < 12 by omega) ?_
      refine And.intro (fun (c21 : X x_reader_text_repeats_ c ≤ j) => ?_) (fun (c21 : ¬ (X x_reader_text_repeats_ c ≤ j)) => ?_)
      · show cw_R _ _ 112 [vr x_, vr x_reader_text_, vi c, vi j] [] (X) _
        exact nx s X j (by rw [← hRR, show (k.2.2.2.1 - j).toNat = 0 by omega]; rfl) (by omega) hS
      · show cw_C _ _ [vr x_] (X) _
        refine C_lookAround hS.2.1 (fun j a b => by rw [hS.1.1 _ (by decide) (by decide) (by decide)]; exact hT j a b) (fun (X1 : cw_M) g1 r1 w1 => ⟨r1.1, ?_⟩)
        rw [hS.2.2.1.1, hS.2.2.1.2] at w1
        have G1 := O_Gt hS.1 g1
        have t1 := O_Gx G1 ht
        have et : X1 x_reader_text_test_ c = M x_reader_text_test_ c := by rw [G1.1 _ (by decide) (by decide) (by decide)]
        have ec1 : X1 x_reader_text_code_ = M x_reader_text_code_ := G1.1 _ (by decide) (by decide) (by decide)
        have ez1 : X1 x_reader_text_ = M x_reader_text_ := G1.1 _ (by decide) (by decide) (by decide)
        have hE := o_Er (dn := s.2.2.1) (lt := s.2.2.2) r1.2.1.1 (by have := hS.2.2.2.1; omega) hS.2.2.2.2
        refine And.intro (show 0 ≤ c ∧ c < 12 by omega) ?_
        refine br_t (show X1 x_reader_text_test_ c = (-1) by omega) ?_
        show cw_C _ _ [vr x_, vr x_reader_text_, vi c] (X1) _
        refine C_runClause (m := X1) (D := s.2.1) r1 (fun j a b => by rw [G1.1 _ (by decide) (by decide) (by decide)]; exact hT j a b) (by rw [G1.1 _ (by decide) (by decide) (by decide)]; exact hc9) (O_Gx G1 ht) hc hk w1 (by have := hS.2.2.2.1; omega) hS.2.2.2.2 (fun q2 (Y : cw_M) gY rY => ⟨rY.1, ?_⟩) (fun q2 (Y : cw_M) gY rY y1 y2 => ⟨rY.1, ?_⟩) hh
        · refine br_f (show ¬ ((0 : Int) ≠ 0) by decide) ?_
          have hm22 : la_ok (cw_put Y x_ 15 c) := la_put rY.1 (by decide) (Or.inl rfl)
          show Q (some (vi (-1))) (cw_put Y x_ 15 c)
          have e1n : o_1 k s = none := (o_12.1 hd).trans q2
          rw [show (k.2.2.2.1 - j).toNat = (k.2.2.2.1 - (j + 1)).toNat + 1 by omega, o_tS.1 e1n] at hRR
          exact no hRR.symm Y _ _ _ (O_Gt G1 gY) rY
        · refine br_t (show (1 : Int) ≠ 0 by decide) ?_
          refine And.intro (show 0 ≤ 1 ∧ 1 < 17 by omega) ?_
          refine And.intro (show -2147483648 ≤ (Y x_orderSums_words_ 1) + 1 ∧ (Y x_orderSums_words_ 1) + 1 < 2147483648 by rw [y1]; have z := hS.2.2.2.1; omega) ?_
          refine And.intro (show 0 ≤ 1 ∧ 1 < 17 by omega) ?_
          have hm23 : la_ok (cw_put Y x_orderSums_words_ 1 ((Y x_orderSums_words_ 1) + 1)) := la_put rY.1 (by decide) (Or.inr (by decide))
          refine And.intro (show -2147483648 ≤ j + 1 ∧ j + 1 < 2147483648 by omega) ?_
          show cw_R _ _ 32 [vr x_, vr x_reader_text_, vi c, vi (j + 1)] [] (cw_put Y x_orderSums_words_ 1 ((Y x_orderSums_words_ 1) + 1)) _
          have e1y : o_1 k s = some (o_n k s) := (o_12.1 hd).trans q2
          rw [show (k.2.2.2.1 - j).toNat = (k.2.2.2.1 - (j + 1)).toNat + 1 by omega, o_tS.2 _ e1y] at hRR
          have eY : ∀ z, z ≠ x_orderSums_words_ → z ≠ x_orderSums_stack_ → cw_put Y x_orderSums_words_ 1 (Y x_orderSums_words_ 1 + 1) z = Y z := fun z a _ => cw_put_ne a
          refine ih (j + 1) _ (o_n k s) (by omega) (by omega) ⟨O_Gt (O_Gt G1 gY) (O_Gc eY), ?_, ⟨?_, ?_⟩, ?_, o_nt hS.2.2.2.2 rY.2.1.1⟩ hRR
          · have z := O_Rc rY hm23 eY
            have dl : d_L (o_n k s).2.1 L0 u0 = (kp_l (d_L s.2.1 L0 u0).1 (d_L s.2.1 L0 u0).2 s.1 k.1, kp_n (d_L s.2.1 L0 u0).2 + 1) := d_La
            rw [dl]
            exact z
          · rw [cw_put_eq, y1]; rfl
          · rw [cw_put_off (by decide), y2]
          · have z := hS.2.2.2.1
            show 0 ≤ s.2.2.1 + 1 ∧ s.2.2.1 + 1 ≤ _
            omega
  exact lp (k.2.2.2.1.toNat + 1) 0 X s (by omega) (by omega) (by rw [show 20 * c + 0 = 20 * c by omega]; exact hS0) (by rw [show k.2.2.2.1 - 0 = k.2.2.2.1 by omega]; exact hR0)
theorem C_run32s {d : Nat} {M X : cw_M} {Q : Option cw_V → cw_M → Prop} {L0 : Int → Int} {u0 c : Int} {s : o_S} {Ks : List p_K} {k : p_K} {RR : Option o_S} (hT : ∀ j, 0 ≤ j → j < 7 → M cw_TREES j = t_c j) (hc9 : M cw_TERM 0 = 999) (ht : X_t true M Ks) (hc : 0 ≤ c ∧ c < 12) (hk : Ks[c.toNat]? = some k) (hh : 0 ≤ k.1 ∧ k.1 ≤ 3) (hrp : 1 ≤ k.2.2.2.1 ∧ k.2.2.2.1 ≤ 20) (no : RR = none → ∀ Y K L un, O_G M Y → O_R Y K L un → Q (some (vi (-1))) (cw_put Y x_ 15 c)) (nx : ∀ s' X j, RR = some s' → j ≤ 20 → O_T M X L0 u0 (20 * c + j) s' → cw_R (d + 11) k_C_runOrders 112 [vr x_, vr x_reader_text_, vi c, vi j] [] X Q) (hS0 : O_T M X L0 u0 (20 * c) s) (hR0 : o_t k k.2.2.2.1.toNat s = RR) {t : p_D} (hTt : k.2.2.2.2 = some t) : cw_R (d + 11) k_C_runOrders 32 [vr x_, vr x_reader_text_, vi c, vi 0] [] X Q := by
  have cl := ht.1 c.toNat k hk
  rw [show ((c.toNat : Nat) : Int) = c by omega] at cl
  obtain ⟨ehd, ere, efi, ese, ete⟩ := cl
  rw [hTt] at ete
  have pT : e_pt (M x_reader_text_code_) (M x_reader_text_ 1) (M x_reader_text_test_ c) (some t) := ete
  have nT := (e_ptv (sk := fun _ => 0) (W := fun _ => 0) pT).1
  have lp : ∀ (r : Nat) (j : Int) (X : cw_M) (s : o_S), k.2.2.2.1 < j + r → (0 ≤ j ∧ j ≤ k.2.2.2.1) → (O_T M X L0 u0 (20 * c + j) s) → (o_t k (k.2.2.2.1 - j).toNat s = RR) → cw_R (d + 11) k_C_runOrders 32 [vr x_, vr x_reader_text_, vi c, vi j] [] X Q := by
    intro r
    induction r with
    | zero =>
      intro j X s hr hj hS hRR
      omega
    | succ r ih =>
      intro j X s hr hj hS hRR
      have er : X x_reader_text_repeats_ c = k.2.2.2.1 := by rw [hS.1.1 _ (by decide) (by decide) (by decide)]; exact ere
      refine la_go_R hS.2.1.1 43 [32, 112] ?_
      refine And.intro (show 0 ≤ c ∧ c < 12 by omega) ?_
      refine And.intro (fun (c21 : X x_reader_text_repeats_ c ≤ j) => ?_) (fun (c21 : ¬ (X x_reader_text_repeats_ c ≤ j)) => ?_)
      · show cw_R _ _ 112 [vr x_, vr x_reader_text_, vi c, vi j] [] (X) _
        exact nx s X j (by rw [← hRR, show (k.2.2.2.1 - j).toNat = 0 by omega]; rfl) (by omega) hS
      · show cw_C _ _ [vr x_] (X) _
        refine C_lookAround hS.2.1 (fun j a b => by rw [hS.1.1 _ (by decide) (by decide) (by decide)]; exact hT j a b) (fun (X1 : cw_M) g1 r1 w1 => ⟨r1.1, ?_⟩)
        rw [hS.2.2.1.1, hS.2.2.1.2] at w1
        have G1 := O_Gt hS.1 g1
        have t1 := O_Gx G1 ht
        have et : X1 x_reader_text_test_ c = M x_reader_text_test_ c := by rw [G1.1 _ (by decide) (by decide) (by decide)]
        have ec1 : X1 x_reader_text_code_ = M x_reader_text_code_ := G1.1 _ (by decide) (by decide) (by decide)
        have ez1 : X1 x_reader_text_ = M x_reader_text_ := G1.1 _ (by decide) (by decide) (by decide)
        have hE := o_Er (dn := s.2.2.1) (lt := s.2.2.2) r1.2.1.1 (by have := hS.2.2.2.1; omega) hS.2.2.2.2
        refine And.intro (show 0 ≤ c ∧ c < 12 by omega) ?_
        refine br_f (show ¬ (X1 x_reader_text_test_ c = (-1)) by omega) ?_
        refine And.intro (show 0 ≤ c ∧ c < 12 by omega) ?_
        show cw_C _ _ [vr x_orderSums_, vr x_reader_text_, vi (X1 x_reader_text_test_ c)] (X1) _
        refine O_ev (X := X1) (D := t) r1.1 t1 (fun i a b => by rw [w1 i a b]; exact hE i a b) (by rw [ec1, ez1, et]; exact pT) (fun (sk : Int → Int) => ⟨(v1_m_ok r1.1), ?_⟩)
        have vT := O_D2 t1.2.1 t1.2.2.1 w1 hE (show e_pt (X1 x_reader_text_code_) (X1 x_reader_text_ 1) (M x_reader_text_test_ c) (some t) by rw [ec1, ez1]; exact pT)
        refine And.intro (fun (c22 : (t (X1 x_orderSums_words_)).getD (-2000000000) = 1) => ?_) (fun (c22 : ¬ ((t (X1 x_orderSums_words_)).getD (-2000000000) = 1)) => ?_)
        · have hd : k_hd k.2.2.2.2 (o_E s.1 s.2.2.1 s.2.2.2) := fun t2 q => by rw [hTt] at q; injection q with q; subst q; rw [← vT.1]; exact gd_1.mp c22
          show cw_C _ _ [vr x_, vr x_reader_text_, vi c] (v1_m X1 sk) _
          refine C_runClause (m := v1_m X1 sk) (D := s.2.1) (O_Rc r1 (v1_m_ok r1.1) v1_e) (fun j a b => by rw [(O_Gt G1 (O_Gc v1_e)).1 _ (by decide) (by decide) (by decide)]; exact hT j a b) (by rw [(O_Gt G1 (O_Gc v1_e)).1 _ (by decide) (by decide) (by decide)]; exact hc9) (O_Gx (O_Gt G1 (O_Gc v1_e)) ht) hc hk w1 (by have := hS.2.2.2.1; omega) hS.2.2.2.2 (fun q2 (Y : cw_M) gY rY => ⟨rY.1, ?_⟩) (fun q2 (Y : cw_M) gY rY y1 y2 => ⟨rY.1, ?_⟩) hh
          · refine br_f (show ¬ ((0 : Int) ≠ 0) by decide) ?_
            have hm23 : la_ok (cw_put Y x_ 15 c) := la_put rY.1 (by decide) (Or.inl rfl)
            show Q (some (vi (-1))) (cw_put Y x_ 15 c)
            have e1n : o_1 k s = none := (o_12.1 hd).trans q2
            rw [show (k.2.2.2.1 - j).toNat = (k.2.2.2.1 - (j + 1)).toNat + 1 by omega, o_tS.1 e1n] at hRR
            exact no hRR.symm Y _ _ _ (O_Gt (O_Gt G1 (O_Gc v1_e)) gY) rY
          · refine br_t (show (1 : Int) ≠ 0 by decide) ?_
            refine And.intro (show 0 ≤ 1 ∧ 1 < 17 by omega) ?_
            refine And.intro (show -2147483648 ≤ (Y x_orderSums_words_ 1) + 1 ∧ (Y x_orderSums_words_ 1) + 1 < 2147483648 by rw [y1]; have z := hS.2.2.2.1; omega) ?_
            refine And.intro (show 0 ≤ 1 ∧ 1 < 17 by omega) ?_
            have hm24 : la_ok (cw_put Y x_orderSums_words_ 1 ((Y x_orderSums_words_ 1) + 1)) := la_put rY.1 (by decide) (Or.inr (by decide))
            refine And.intro (show -2147483648 ≤ j + 1 ∧ j + 1 < 2147483648 by omega) ?_
            show cw_R _ _ 32 [vr x_, vr x_reader_text_, vi c, vi (j + 1)] [] (cw_put Y x_orderSums_words_ 1 ((Y x_orderSums_words_ 1) + 1)) _
            have e1y : o_1 k s = some (o_n k s) := (o_12.1 hd).trans q2
            rw [show (k.2.2.2.1 - j).toNat = (k.2.2.2.1 - (j + 1)).toNat + 1 by omega, o_tS.2 _ e1y] at hRR
            have eY : ∀ z, z ≠ x_orderSums_words_ → z ≠ x_orderSums_stack_ → cw_put Y x_orderSums_words_ 1 (Y x_orderSums_words_ 1 + 1) z = Y z := fun z a _ => cw_put_ne a
            refine ih (j + 1) _ (o_n k s) (by omega) (by omega) ⟨O_Gt (O_Gt (O_Gt G1 (O_Gc v1_e)) gY) (O_Gc eY), ?_, ⟨?_, ?_⟩, ?_, o_nt hS.2.2.2.2 rY.2.1.1⟩ hRR
            · have z := O_Rc rY hm24 eY
              have dl : d_L (o_n k s).2.1 L0 u0 = (kp_l (d_L s.2.1 L0 u0).1 (d_L s.2.1 L0 u0).2 s.1 k.1, kp_n (d_L s.2.1 L0 u0).2 + 1) := d_La
              rw [dl]
              exact z
            · rw [cw_put_eq, y1]; rfl
            · rw [cw_put_off (by decide), y2]
            · have z := hS.2.2.2.1
              show 0 ≤ s.2.2.1 + 1 ∧ s.2.2.1 + 1 ≤ _
              omega
        · have hd : ¬ k_hd k.2.2.2.2 (o_E s.1 s.2.2.1 s.2.2.2) := fun z => c22 (gd_1.mpr (by rw [vT.1]; exact z t hTt))
          refine And.intro (show -2147483648 ≤ j + 1 ∧ j + 1 < 2147483648 by omega) ?_
          show cw_R _ _ 32 [vr x_, vr x_reader_text_, vi c, vi (j + 1)] [] (v1_m X1 sk) _
          have e1s : o_1 k s = some s := o_12.2 hd
          rw [show (k.2.2.2.1 - j).toNat = (k.2.2.2.1 - (j + 1)).toNat + 1 by omega, o_tS.2 _ e1s] at hRR
          refine ih (j + 1) _ s (by omega) (by omega) ⟨O_Gt G1 (O_Gc v1_e), O_Rc r1 (v1_m_ok r1.1) v1_e, ⟨?_, ?_⟩, ?_, hS.2.2.2.2⟩ hRR
          · exact w1 1 (by decide) (by decide)
          · exact w1 2 (by decide) (by decide)
          · have z := hS.2.2.2.1
            omega
  exact lp (k.2.2.2.1.toNat + 1) 0 X s (by omega) (by omega) (by rw [show 20 * c + 0 = 20 * c by omega]; exact hS0) (by rw [show k.2.2.2.1 - 0 = k.2.2.2.1 by omega]; exact hR0)
theorem C_runOrders {d : Nat} {M : cw_M} {Q : Option cw_V → cw_M → Prop} {K L0 : Int → Int} {u0 : Int} {Ks : List p_K} (hR : O_R M K L0 u0) (hT : ∀ j, 0 ≤ j → j < 7 → M cw_TREES j = t_c j) (hc9 : M cw_TERM 0 = 999) (ht : X_t true M Ks) (hKs : ∀ k ∈ Ks, (0 ≤ k.1 ∧ k.1 ≤ 3) ∧ 1 ≤ k.2.2.2.1 ∧ k.2.2.2.1 ≤ 20) (hok : ∀ s X, o_l Ks 0 (K, [], 0, -1) = .ok s → O_G M X → O_R X s.1 (d_L s.2.1 L0 u0).1 (d_L s.2.1 L0 u0).2 → (0 ≤ s.2.2.1 ∧ s.2.2.1 ≤ 20 * (Ks.length : Int)) → Q (some (vi s.2.2.1)) X) (hfa : ∀ k X K' L' u', o_l Ks 0 (K, [], 0, -1) = .error k → (0 ≤ k ∧ k ≤ 11) → O_G M X → O_R X K' L' u' → Q (some (vi (-1))) (cw_put X x_ 15 k)) : cw_C (d + 11) k_C_runOrders [vr x_, vr x_reader_text_] M Q := by
  have hm := hR.1
  obtain ⟨RR, eRR⟩ : ∃ RR, RR = o_l Ks 0 (K, [], 0, -1) := ⟨_, rfl⟩
  rw [← eRR] at hok hfa
  have lp : ∀ (r : Nat) (c : Int) (X : cw_M) (s : o_S) (w3 : cw_V), (Ks.length : Int) < c + r → (0 ≤ c ∧ c ≤ (Ks.length : Int)) → (O_T M X L0 u0 (20 * c) s) → (o_l (Ks.drop c.toNat) c s = RR) → cw_R (d + 11) k_C_runOrders 22 [vr x_, vr x_reader_text_, vi c, w3] [] X Q := by
    intro r
    induction r with
    | zero =>
      intro c X s w3 hr hc hS hRR
      omega
    | succ r ih =>
      intro c X s w3 hr hc hS hRR
      have h0 : X x_reader_text_ 0 = (Ks.length : Int) := by rw [hS.1.1 _ (by decide) (by decide) (by decide)]; exact ht.2.2.2.1
      have h12 := ht.2.2.2.2
      refine la_go_R hS.2.1.1 13 [22, 32] ?_
      refine And.intro (fun (c21 : X x_reader_text_ 0 ≤ c) => ?_) (fun (c21 : ¬ (X x_reader_text_ 0 ≤ c)) => ?_)
      · refine And.intro (show 0 ≤ 1 ∧ 1 < 17 by omega) ?_
        show Q (some (vi (X x_orderSums_words_ 1))) (X)
        rw [List.drop_eq_nil_of_le (by omega)] at hRR
        rw [hS.2.2.1.1]
        exact hok s X (by rw [← hRR]; rfl) hS.1 hS.2.1 ⟨hS.2.2.2.1.1, by have := hS.2.2.2.1.2; omega⟩
      · show cw_R _ _ 32 [vr x_, vr x_reader_text_, vi c, vi 0] [] (X) _
        have hlen : c.toNat < Ks.length := by omega
        obtain ⟨k, hk⟩ : ∃ k, Ks[c.toNat]? = some k := ⟨_, List.getElem?_eq_getElem hlen⟩
        have hkm : k ∈ Ks := List.mem_of_getElem? hk
        have hk2 := hKs k hkm
        have dr : Ks.drop c.toNat = k :: Ks.drop (c.toNat + 1) := by
          rw [List.drop_eq_getElem_cons hlen]
          rw [List.getElem?_eq_getElem hlen] at hk
          injection hk with hk
          rw [hk]
        rw [dr] at hRR
        have no : o_t k k.2.2.2.1.toNat s = none → ∀ Y K L un, O_G M Y → O_R Y K L un → Q (some (vi (-1))) (cw_put Y x_ 15 c) := fun e Y K L un a b => hfa c Y K L un (by rw [← hRR, o_lS.1 e]) ⟨hc.1, by omega⟩ a b
        have nx : ∀ s2 X2 j, o_t k k.2.2.2.1.toNat s = some s2 → j ≤ 20 → O_T M X2 L0 u0 (20 * c + j) s2 → cw_R (d + 11) k_C_runOrders 112 [vr x_, vr x_reader_text_, vi c, vi j] [] X2 Q := by
          intro s2 X2 j e hj20 hS2
          have hR2 : o_l (Ks.drop (c + 1).toNat) (c + 1) s2 = RR := by rw [show (c + 1).toNat = c.toNat + 1 by omega, ← hRR, o_lS.2 _ e]
          refine la_go_R hS2.2.1.1 5 [22] ?_
          refine And.intro (show -2147483648 ≤ c + 1 ∧ c + 1 < 2147483648 by omega) ?_
          show cw_R _ _ 22 [vr x_, vr x_reader_text_, vi (c + 1), vi j] [] (X2) _
          exact ih (c + 1) X2 s2 _ (by omega) (by omega) (by unfold O_T at hS2 ⊢; have := hS2.2.2.2.1; exact ⟨hS2.1, hS2.2.1, hS2.2.2.1, ⟨by omega, by omega⟩, hS2.2.2.2.2⟩) hR2
        cases hTt : k.2.2.2.2 with
        | none => exact C_run32n hT hc9 ht (by omega) hk hk2.1 hk2.2 no nx hS rfl hTt
        | some t => exact C_run32s hT hc9 ht (by omega) hk hk2.1 hk2.2 no nx hS rfl hTt
  refine la_go_C hm 17 [22] ?_
  refine And.intro (show 0 ≤ 1 ∧ 1 < 17 by omega) ?_
  have hm21 : la_ok (cw_put M x_orderSums_words_ 1 0) := la_put hm (by decide) (Or.inr (by decide))
  refine And.intro (show 0 ≤ 2 ∧ 2 < 17 by omega) ?_
  have hm22 : la_ok (cw_put (cw_put M x_orderSums_words_ 1 0) x_orderSums_words_ 2 (-1)) := la_put hm21 (by decide) (Or.inr (by decide))
  show cw_R _ _ 22 [vr x_, vr x_reader_text_, vi 0, none] [] (cw_put (cw_put M x_orderSums_words_ 1 0) x_orderSums_words_ 2 (-1)) _
  have eY : ∀ z, z ≠ x_orderSums_words_ → z ≠ x_orderSums_stack_ → cw_put (cw_put M x_orderSums_words_ 1 0) x_orderSums_words_ 2 (-1) z = M z := fun z a _ => by rw [cw_put_ne a, cw_put_ne a]
  refine lp (Ks.length + 1) 0 _ (K, [], 0, -1) _ (by omega) (by omega) ⟨O_Gc eY, O_Rc hR hm22 eY, ⟨rfl, rfl⟩, ⟨Int.le_refl 0, (by show (0 : Int) ≤ 20 * 0; decide)⟩, Int.le_refl (-1), (by show (-1 : Int) ≤ 132; decide)⟩ eRR.symm
