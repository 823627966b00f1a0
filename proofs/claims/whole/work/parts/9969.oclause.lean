/-! A clause of orders is run, by the class (wip/whole/tools/m169.py). -/
noncomputable def o_n (k : p_K) (s : o_S) : o_S := (o_k s.1 k.1 (s_ml ((k.2.1 (o_E s.1 s.2.2.1 s.2.2.2)).getD 0)) (s_ml ((k.2.2.1 (o_E s.1 s.2.2.1 s.2.2.2)).getD 0)), s.2.1 ++ [(k.1, (s_ml ((k.2.1 (o_E s.1 s.2.2.1 s.2.2.2)).getD 0)), s.1)], s.2.2.1 + 1, if k.1 = 0 then ((R_K (o_k s.1 k.1 (s_ml ((k.2.1 (o_E s.1 s.2.2.1 s.2.2.2)).getD 0)) (s_ml ((k.2.2.1 (o_E s.1 s.2.2.1 s.2.2.2)).getD 0)))).length : Int) else s.2.2.2)
noncomputable def o_2 (k : p_K) (s : o_S) : Option o_S := if (k.1 ≤ 2 ∧ k.2.1 (o_E s.1 s.2.2.1 s.2.2.2) = none) ∨ (k.1 ≤ 1 ∧ k.2.2.1 (o_E s.1 s.2.2.1 s.2.2.2) = none) then none else if o_c s.1 k.1 (s_ml ((k.2.1 (o_E s.1 s.2.2.1 s.2.2.2)).getD 0)) (s_ml ((k.2.2.1 (o_E s.1 s.2.2.1 s.2.2.2)).getD 0)) < 0 then none else some (o_n k s)
theorem o_12 {k : p_K} {s : o_S} : (k_hd k.2.2.2.2 (o_E s.1 s.2.2.1 s.2.2.2) → o_1 k s = o_2 k s) ∧ (¬ k_hd k.2.2.2.2 (o_E s.1 s.2.2.1 s.2.2.2) → o_1 k s = some s) := by
  unfold o_1
  exact ⟨fun q => by rw [if_pos q]; rfl, fun q => by rw [if_neg q]⟩
theorem s_mli {x : Int} (h : 0 ≤ x ∧ x ≤ 1000000) : s_ml x = x := by unfold s_ml; rw [if_pos h]
theorem s_mlr {x a b : Int} (h : 0 ≤ a ∧ b ≤ 1000000) : (a ≤ s_ml x ∧ s_ml x ≤ b) ↔ (a ≤ x ∧ x ≤ b) := by
  unfold s_ml
  split <;> omega
theorem mk_ms {K : Int → Int} {j x : Int} (hK : 0 ≤ K 46 ∧ K 46 ≤ 7) : mk_c K (s_ml j) (s_ml x) = mk_c K j x ∧ (mk_c K j x = 0 → s_ml j = j ∧ s_ml x = x) := by
  by_cases q : 0 ≤ x ∧ x ≤ 3
  · rw [s_mli (x := x) (by omega)]
    by_cases q2 : 0 ≤ j ∧ j < K 46 - 1
    · rw [s_mli (x := j) (by omega)]; exact ⟨rfl, fun _ => ⟨rfl, rfl⟩⟩
    · have n := s_mlr (x := j) (a := 0) (b := K 46 - 2) (by omega)
      have e1 : mk_c K (s_ml j) x = -2 := by unfold mk_c; rw [if_neg (by omega), if_pos (by omega)]
      have e2 : mk_c K j x = -2 := by unfold mk_c; rw [if_neg (by omega), if_pos (by omega)]
      rw [e1, e2]; exact ⟨rfl, fun z => absurd z (by decide)⟩
  · have n := s_mlr (x := x) (a := 0) (b := 3) (by omega)
    have e1 : mk_c K (s_ml j) (s_ml x) = -1 := by unfold mk_c; rw [if_pos (by omega)]
    have e2 : mk_c K j x = -1 := by unfold mk_c; rw [if_pos (by omega)]
    rw [e1, e2]; exact ⟨rfl, fun z => absurd z (by decide)⟩
theorem tn_ms {K : Int → Int} {j x : Int} (hK : 0 ≤ K 46 ∧ K 46 ≤ 7) : tn_c K (s_ml j) (s_ml x) = tn_c K j x ∧ (tn_c K j x = 0 → s_ml j = j ∧ s_ml x = x) := by
  by_cases q : 0 ≤ x ∧ x ≤ 2
  · rw [s_mli (x := x) (by omega)]
    by_cases q2 : 0 ≤ j ∧ j < K 46 - 1
    · rw [s_mli (x := j) (by omega)]; exact ⟨rfl, fun _ => ⟨rfl, rfl⟩⟩
    · have n := s_mlr (x := j) (a := 0) (b := K 46 - 2) (by omega)
      have e1 : tn_c K (s_ml j) x = -2 := by unfold tn_c; rw [if_neg (by omega), if_pos (by omega)]
      have e2 : tn_c K j x = -2 := by unfold tn_c; rw [if_neg (by omega), if_pos (by omega)]
      rw [e1, e2]; exact ⟨rfl, fun z => absurd z (by decide)⟩
  · have n := s_mlr (x := x) (a := 0) (b := 2) (by omega)
    have e1 : tn_c K (s_ml j) (s_ml x) = -1 := by unfold tn_c; rw [if_pos (by omega)]
    have e2 : tn_c K j x = -1 := by unfold tn_c; rw [if_pos (by omega)]
    rw [e1, e2]; exact ⟨rfl, fun z => absurd z (by decide)⟩
theorem di_ms {K : Int → Int} {p : Int} : di_c K (s_ml p) = di_c K p ∧ (di_c K p = 0 → s_ml p = p) := by
  by_cases q : 0 ≤ p ∧ p ≤ 5
  · rw [s_mli (x := p) (by omega)]; exact ⟨rfl, fun _ => rfl⟩
  · have n := s_mlr (x := p) (a := 0) (b := 5) (by omega)
    have e1 : di_c K (s_ml p) = -1 := by unfold di_c; rw [if_pos (by omega)]
    have e2 : di_c K p = -1 := by unfold di_c; rw [if_pos (by omega)]
    rw [e1, e2]; exact ⟨rfl, fun z => absurd z (by decide)⟩
theorem v1_e {X : cw_M} {sk : Int → Int} : ∀ c, c ≠ x_orderSums_words_ → c ≠ x_orderSums_stack_ → v1_m X sk c = X c := fun c _ b => v1_m_ne b
theorem gd_n {r : Option Int} (h : ∀ x, r = some x → -2000000000 < x ∧ x < 2000000000) (e : r.getD (-2000000000) = -2000000000) : r = none := by
  cases r with
  | none => rfl
  | some x =>
    have q : x = -2000000000 := e
    have := h x rfl
    omega
theorem C_runClause0 {d : Nat} {m : cw_M} {Q : Option cw_V → cw_M → Prop} {K L : Int → Int} {un dn lt c : Int} {D : List o_D} {Ks : List p_K} {k : p_K} (hR : O_R m K L un) (hT : ∀ j, 0 ≤ j → j < 7 → m cw_TREES j = t_c j) (hc9 : m cw_TERM 0 = 999) (ht : X_t true m Ks) (hc : 0 ≤ c ∧ c < 12) (hk : Ks[c.toNat]? = some k) (hw : ∀ i, 0 ≤ i → i < 17 → m x_orderSums_words_ i = (o_E K dn lt) i) (hdn : 0 ≤ dn ∧ dn ≤ 1000) (hlt : -1 ≤ lt ∧ lt ≤ 132) (hno : o_2 k (K, D, dn, lt) = none → ∀ Y, O_G m Y → O_R Y K L un → Q (some (vi 0)) Y) (hyes : o_2 k (K, D, dn, lt) = some (o_n k (K, D, dn, lt)) → ∀ Y, O_G m Y → O_R Y (o_n k (K, D, dn, lt)).1 (kp_l L un K k.1) (kp_n un + 1) → Y x_orderSums_words_ 1 = dn → Y x_orderSums_words_ 2 = (o_n k (K, D, dn, lt)).2.2.2 → Q (some (vi 1)) Y) (hh : k.1 = 0) : cw_C (d + 10) k_C_runClause [vr x_, vr x_reader_text_, vi c] m Q := by
  obtain ⟨hm, ⟨hK, hW, hZ, hE0⟩, hG⟩ := hR
  have hR : O_R m K L un := ⟨hm, ⟨hK, hW, hZ, hE0⟩, hG⟩
  have cl := ht.1 c.toNat k hk
  rw [show ((c.toNat : Nat) : Int) = c by omega] at cl
  obtain ⟨ehd, ere, efi, ese, ete⟩ := cl
  have hE := o_Er (dn := dn) (lt := lt) hK hdn hlt
  have hwb : ∀ i, 0 ≤ i → i < 17 → -1000000 ≤ m x_orderSums_words_ i ∧ m x_orderSums_words_ i ≤ 1000000 := fun i a b => by rw [hw i a b]; exact hE i a b
  have e1 : m x_orderSums_words_ 1 = dn := hw 1 (by decide) (by decide)
  have e2 : m x_orderSums_words_ 2 = lt := hw 2 (by decide) (by decide)
  rw [hh] at efi ese ehd
  have pA : e_pt (m x_reader_text_code_) (m x_reader_text_ 1) (m x_reader_text_first_ c) (some k.2.1) := efi
  have vA := O_D2 ht.2.1 ht.2.2.1 hw hE pA
  have nA := (e_ptv (sk := fun _ => 0) (W := fun _ => 0) pA).1
  have pB : e_pt (m x_reader_text_code_) (m x_reader_text_ 1) (m x_reader_text_second_ c) (some k.2.2.1) := ese
  have vB := O_D2 ht.2.1 ht.2.2.1 hw hE pB
  have nB := (e_ptv (sk := fun _ => 0) (W := fun _ => 0) pB).1
  refine la_go_C hm 43 [82] ?_
  refine And.intro (show 0 ≤ c ∧ c < 12 by omega) ?_
  refine br_t (show m x_reader_text_first_ c ≠ (-1) by omega) ?_
  refine And.intro (show 0 ≤ c ∧ c < 12 by omega) ?_
  show cw_C _ _ [vr x_orderSums_, vr x_reader_text_, vi (m x_reader_text_first_ c)] (m) _
  refine O_ev hm ht hwb pA (fun (sk1 : Int → Int) => ⟨(v1_m_ok hm), ?_⟩)
  refine And.intro (show 0 ≤ c ∧ c < 12 by omega) ?_
  refine br_t (show m x_reader_text_second_ c ≠ (-1) by omega) ?_
  refine And.intro (show 0 ≤ c ∧ c < 12 by omega) ?_
  show cw_C _ _ [vr x_orderSums_, vr x_reader_text_, vi (m x_reader_text_second_ c)] (v1_m m sk1) _
  refine O_ev (X := v1_m m sk1) (v1_m_ok hm) ht hwb pB (fun (sk2 : Int → Int) => ⟨(v1_m_ok (v1_m_ok hm)), ?_⟩)
  refine And.intro (fun (c_A : (k.2.1 (m x_orderSums_words_)).getD (-2000000000) = (-2000000000)) => ?_) (fun (c_A : ¬ ((k.2.1 (m x_orderSums_words_)).getD (-2000000000) = (-2000000000))) => ?_)
  · refine And.intro (Or.inl rfl) ?_
    show Q (some (vi 0)) (v1_m (v1_m m sk1) sk2)
    refine hno ?_ _ (O_Gt (O_Gc v1_e) (O_Gc v1_e)) (O_Rc (O_Rc hR (v1_m_ok hm) v1_e) (v1_m_ok (v1_m_ok hm)) v1_e)
    unfold o_2
    rw [if_pos]
    first
      | exact Or.inl ⟨by rw [hh]; decide, by rw [← vA.1]; exact gd_n (fun x q => by rw [vA.1] at q; exact vA.2 x q) c_A⟩
      | exact Or.inr ⟨by rw [hh]; decide, by rw [← vB.1]; exact gd_n (fun x q => by rw [vB.1] at q; exact vB.2 x q) (Classical.not_not.mp c_B)⟩
  · refine And.intro (fun (c_B : (k.2.2.1 (m x_orderSums_words_)).getD (-2000000000) ≠ (-2000000000)) => ?_) (fun (c_B : ¬ ((k.2.2.1 (m x_orderSums_words_)).getD (-2000000000) ≠ (-2000000000))) => ?_)
    · refine And.intro (show 0 ≤ c ∧ c < 12 by omega) ?_
      show cw_R _ _ 82 [vr x_, vr x_reader_text_, vi c, vi ((k.2.1 (m x_orderSums_words_)).getD (-2000000000)), vi ((k.2.2.1 (m x_orderSums_words_)).getD (-2000000000)), none] [vi (m x_reader_text_head_ c)] (v1_m (v1_m m sk1) sk2) _
      have gA : k.2.1 (o_E K dn lt) ≠ none := fun z => by rw [vA.1, z] at c_A; exact c_A rfl
      obtain ⟨a, eA⟩ := Option.ne_none_iff_exists'.mp gA
      have vA2 : (k.2.1 (m x_orderSums_words_)).getD (-2000000000) = a := by rw [vA.1, eA]; rfl
      have gB : k.2.2.1 (o_E K dn lt) ≠ none := fun z => by rw [vB.1, z] at c_B; exact c_B rfl
      obtain ⟨b, eB⟩ := Option.ne_none_iff_exists'.mp gB
      have vB2 : (k.2.2.1 (m x_orderSums_words_)).getD (-2000000000) = b := by rw [vB.1, eB]; rfl
      have rM : O_R (v1_m (v1_m m sk1) sk2) K L un := (O_Rc (O_Rc hR (v1_m_ok hm) v1_e) (v1_m_ok (v1_m_ok hm)) v1_e)
      have ehd2 : (v1_m (v1_m m sk1) sk2) x_reader_text_head_ c = 0 := ehd
      rw [ehd, vA2, vB2]
      refine la_go_R (v1_m_ok (v1_m_ok hm)) 20 [] ?_
      show cw_C _ _ [vr x_, vi a, vi b] (v1_m (v1_m m sk1) sk2) _
      refine O_mark rM (fun i x y => hT i x y) (fun (q : mk_c K a b < 0) => ⟨(v1_m_ok (v1_m_ok hm)), ?_⟩) (fun (q : mk_c K a b = 0) (Y : cw_M) (gY : O_F (v1_m (v1_m m sk1) sk2) Y) (rY : O_R Y (cw_up K a b) (kp_l L un K 0) (kp_n un + 1)) => ⟨rY.1, ?_⟩)
      · refine And.intro (show 0 ≤ 2 ∧ 2 < 17 by omega) ?_
        have hm21 : la_ok (cw_put (v1_m (v1_m m sk1) sk2) x_orderSums_words_ 2 (mk_c K a b)) := la_put (v1_m_ok (v1_m_ok hm)) (by decide) (Or.inr (by decide))
        refine br_t (show mk_c K a b < 0 by omega) ?_
        refine And.intro (Or.inl rfl) ?_
        show Q (some (vi 0)) (cw_put (v1_m (v1_m m sk1) sk2) x_orderSums_words_ 2 (mk_c K a b))
        have e2n : o_2 k (K, D, dn, lt) = none := by
          unfold o_2
          rw [if_neg (fun z => by rcases z with z | z <;> first | (rw [eA] at z; cases z.2) | (rw [eB] at z; cases z.2)), if_pos (by rw [(show o_c K k.1 (s_ml ((k.2.1 (o_E K dn lt)).getD 0)) (s_ml ((k.2.2.1 (o_E K dn lt)).getD 0)) = mk_c K a b by rw [hh, eA, eB]; exact (mk_ms hK.1).1)]; exact q)]
        have eY : ∀ c, c ≠ x_orderSums_words_ → c ≠ x_orderSums_stack_ → cw_put (v1_m (v1_m m sk1) sk2) x_orderSums_words_ 2 (mk_c K a b) c = (v1_m (v1_m m sk1) sk2) c := fun c x _ => cw_put_ne x
        exact hno e2n _ (O_Gt (O_Gt (O_Gc v1_e) (O_Gc v1_e)) (O_Gc eY)) (O_Rc rM hm21 eY)
      · refine And.intro (show 0 ≤ 2 ∧ 2 < 17 by omega) ?_
        have hm22 : la_ok (cw_put Y x_orderSums_words_ 2 ((R_K (cw_up K a b)).length : Int)) := la_put rY.1 (by decide) (Or.inr (by decide))
        refine br_f (show ¬ (((R_K (cw_up K a b)).length : Int) < 0) by omega) ?_
        refine And.intro (Or.inr rfl) ?_
        show Q (some (vi 1)) (cw_put Y x_orderSums_words_ 2 ((R_K (cw_up K a b)).length : Int))
        have e2y : o_2 k (K, D, dn, lt) = some (o_n k (K, D, dn, lt)) := by
          unfold o_2
          rw [if_neg (fun z => by rcases z with z | z <;> first | (rw [eA] at z; cases z.2) | (rw [eB] at z; cases z.2)), if_neg (by rw [(show o_c K k.1 (s_ml ((k.2.1 (o_E K dn lt)).getD 0)) (s_ml ((k.2.2.1 (o_E K dn lt)).getD 0)) = mk_c K a b by rw [hh, eA, eB]; exact (mk_ms hK.1).1)]; omega)]
        have eK : (o_n k (K, D, dn, lt)).1 = (cw_up K a b) := (show o_k K k.1 (s_ml ((k.2.1 (o_E K dn lt)).getD 0)) (s_ml ((k.2.2.1 (o_E K dn lt)).getD 0)) = (cw_up K a b) by rw [hh, eA, eB]; show cw_up K (s_ml a) (s_ml b) = _; rw [((mk_ms hK.1).2 q).1, ((mk_ms hK.1).2 q).2])
        have yw : Y x_orderSums_words_ = m x_orderSums_words_ := gY.1 _ (by decide)
        have el : (o_n k (K, D, dn, lt)).2.2.2 = ((R_K (cw_up K a b)).length : Int) := by
          unfold o_n
          show (if k.1 = 0 then ((R_K (o_n k (K, D, dn, lt)).1).length : Int) else lt) = _
          rw [if_pos hh, eK]
        have eY : ∀ c, c ≠ x_orderSums_words_ → c ≠ x_orderSums_stack_ → cw_put Y x_orderSums_words_ 2 ((R_K (cw_up K a b)).length : Int) c = Y c := fun c x _ => cw_put_ne x
        refine hyes e2y _ (O_Gt (O_Gt (O_Gc v1_e) (O_Gc v1_e)) (O_Gt (O_GF gY) (O_Gc eY))) ?_ ?_ ?_
        · rw [eK, hh]; exact O_Rc rY hm22 eY
        · rw [cw_put_off (by decide), yw]; exact e1
        · rw [el, cw_put_eq]
    · refine And.intro (Or.inl rfl) ?_
      show Q (some (vi 0)) (v1_m (v1_m m sk1) sk2)
      refine hno ?_ _ (O_Gt (O_Gc v1_e) (O_Gc v1_e)) (O_Rc (O_Rc hR (v1_m_ok hm) v1_e) (v1_m_ok (v1_m_ok hm)) v1_e)
      unfold o_2
      rw [if_pos]
      first
        | exact Or.inl ⟨by rw [hh]; decide, by rw [← vA.1]; exact gd_n (fun x q => by rw [vA.1] at q; exact vA.2 x q) c_A⟩
        | exact Or.inr ⟨by rw [hh]; decide, by rw [← vB.1]; exact gd_n (fun x q => by rw [vB.1] at q; exact vB.2 x q) (Classical.not_not.mp c_B)⟩
theorem C_runClause1 {d : Nat} {m : cw_M} {Q : Option cw_V → cw_M → Prop} {K L : Int → Int} {un dn lt c : Int} {D : List o_D} {Ks : List p_K} {k : p_K} (hR : O_R m K L un) (hT : ∀ j, 0 ≤ j → j < 7 → m cw_TREES j = t_c j) (hc9 : m cw_TERM 0 = 999) (ht : X_t true m Ks) (hc : 0 ≤ c ∧ c < 12) (hk : Ks[c.toNat]? = some k) (hw : ∀ i, 0 ≤ i → i < 17 → m x_orderSums_words_ i = (o_E K dn lt) i) (hdn : 0 ≤ dn ∧ dn ≤ 1000) (hlt : -1 ≤ lt ∧ lt ≤ 132) (hno : o_2 k (K, D, dn, lt) = none → ∀ Y, O_G m Y → O_R Y K L un → Q (some (vi 0)) Y) (hyes : o_2 k (K, D, dn, lt) = some (o_n k (K, D, dn, lt)) → ∀ Y, O_G m Y → O_R Y (o_n k (K, D, dn, lt)).1 (kp_l L un K k.1) (kp_n un + 1) → Y x_orderSums_words_ 1 = dn → Y x_orderSums_words_ 2 = (o_n k (K, D, dn, lt)).2.2.2 → Q (some (vi 1)) Y) (hh : k.1 = 1) : cw_C (d + 10) k_C_runClause [vr x_, vr x_reader_text_, vi c] m Q := by
  obtain ⟨hm, ⟨hK, hW, hZ, hE0⟩, hG⟩ := hR
  have hR : O_R m K L un := ⟨hm, ⟨hK, hW, hZ, hE0⟩, hG⟩
  have cl := ht.1 c.toNat k hk
  rw [show ((c.toNat : Nat) : Int) = c by omega] at cl
  obtain ⟨ehd, ere, efi, ese, ete⟩ := cl
  have hE := o_Er (dn := dn) (lt := lt) hK hdn hlt
  have hwb : ∀ i, 0 ≤ i → i < 17 → -1000000 ≤ m x_orderSums_words_ i ∧ m x_orderSums_words_ i ≤ 1000000 := fun i a b => by rw [hw i a b]; exact hE i a b
  have e1 : m x_orderSums_words_ 1 = dn := hw 1 (by decide) (by decide)
  have e2 : m x_orderSums_words_ 2 = lt := hw 2 (by decide) (by decide)
  rw [hh] at efi ese ehd
  have pA : e_pt (m x_reader_text_code_) (m x_reader_text_ 1) (m x_reader_text_first_ c) (some k.2.1) := efi
  have vA := O_D2 ht.2.1 ht.2.2.1 hw hE pA
  have nA := (e_ptv (sk := fun _ => 0) (W := fun _ => 0) pA).1
  have pB : e_pt (m x_reader_text_code_) (m x_reader_text_ 1) (m x_reader_text_second_ c) (some k.2.2.1) := ese
  have vB := O_D2 ht.2.1 ht.2.2.1 hw hE pB
  have nB := (e_ptv (sk := fun _ => 0) (W := fun _ => 0) pB).1
  refine la_go_C hm 43 [82] ?_
  refine And.intro (show 0 ≤ c ∧ c < 12 by omega) ?_
  refine br_t (show m x_reader_text_first_ c ≠ (-1) by omega) ?_
  refine And.intro (show 0 ≤ c ∧ c < 12 by omega) ?_
  show cw_C _ _ [vr x_orderSums_, vr x_reader_text_, vi (m x_reader_text_first_ c)] (m) _
  refine O_ev hm ht hwb pA (fun (sk1 : Int → Int) => ⟨(v1_m_ok hm), ?_⟩)
  refine And.intro (show 0 ≤ c ∧ c < 12 by omega) ?_
  refine br_t (show m x_reader_text_second_ c ≠ (-1) by omega) ?_
  refine And.intro (show 0 ≤ c ∧ c < 12 by omega) ?_
  show cw_C _ _ [vr x_orderSums_, vr x_reader_text_, vi (m x_reader_text_second_ c)] (v1_m m sk1) _
  refine O_ev (X := v1_m m sk1) (v1_m_ok hm) ht hwb pB (fun (sk2 : Int → Int) => ⟨(v1_m_ok (v1_m_ok hm)), ?_⟩)
  refine And.intro (fun (c_A : (k.2.1 (m x_orderSums_words_)).getD (-2000000000) = (-2000000000)) => ?_) (fun (c_A : ¬ ((k.2.1 (m x_orderSums_words_)).getD (-2000000000) = (-2000000000))) => ?_)
  · refine And.intro (Or.inl rfl) ?_
    show Q (some (vi 0)) (v1_m (v1_m m sk1) sk2)
    refine hno ?_ _ (O_Gt (O_Gc v1_e) (O_Gc v1_e)) (O_Rc (O_Rc hR (v1_m_ok hm) v1_e) (v1_m_ok (v1_m_ok hm)) v1_e)
    unfold o_2
    rw [if_pos]
    first
      | exact Or.inl ⟨by rw [hh]; decide, by rw [← vA.1]; exact gd_n (fun x q => by rw [vA.1] at q; exact vA.2 x q) c_A⟩
      | exact Or.inr ⟨by rw [hh]; decide, by rw [← vB.1]; exact gd_n (fun x q => by rw [vB.1] at q; exact vB.2 x q) (Classical.not_not.mp c_B)⟩
  · refine And.intro (fun (c_B : (k.2.2.1 (m x_orderSums_words_)).getD (-2000000000) ≠ (-2000000000)) => ?_) (fun (c_B : ¬ ((k.2.2.1 (m x_orderSums_words_)).getD (-2000000000) ≠ (-2000000000))) => ?_)
    · refine And.intro (show 0 ≤ c ∧ c < 12 by omega) ?_
      show cw_R _ _ 82 [vr x_, vr x_reader_text_, vi c, vi ((k.2.1 (m x_orderSums_words_)).getD (-2000000000)), vi ((k.2.2.1 (m x_orderSums_words_)).getD (-2000000000)), none] [vi (m x_reader_text_head_ c)] (v1_m (v1_m m sk1) sk2) _
      have gA : k.2.1 (o_E K dn lt) ≠ none := fun z => by rw [vA.1, z] at c_A; exact c_A rfl
      obtain ⟨a, eA⟩ := Option.ne_none_iff_exists'.mp gA
      have vA2 : (k.2.1 (m x_orderSums_words_)).getD (-2000000000) = a := by rw [vA.1, eA]; rfl
      have gB : k.2.2.1 (o_E K dn lt) ≠ none := fun z => by rw [vB.1, z] at c_B; exact c_B rfl
      obtain ⟨b, eB⟩ := Option.ne_none_iff_exists'.mp gB
      have vB2 : (k.2.2.1 (m x_orderSums_words_)).getD (-2000000000) = b := by rw [vB.1, eB]; rfl
      have rM : O_R (v1_m (v1_m m sk1) sk2) K L un := (O_Rc (O_Rc hR (v1_m_ok hm) v1_e) (v1_m_ok (v1_m_ok hm)) v1_e)
      have ehd2 : (v1_m (v1_m m sk1) sk2) x_reader_text_head_ c = 1 := ehd
      rw [ehd, vA2, vB2]
      refine la_go_R (v1_m_ok (v1_m_ok hm)) 12 [] ?_
      show cw_C _ _ [vr x_, vi a, vi b] (v1_m (v1_m m sk1) sk2) _
      refine O_turn rM (fun (q : tn_c K a b < 0) => ⟨(v1_m_ok (v1_m_ok hm)), ?_⟩) (fun (q : tn_c K a b = 0) (Y : cw_M) (v : Int) (hv : 0 ≤ v) (gY : O_F (v1_m (v1_m m sk1) sk2) Y) (rY : O_R Y (cw_up K (6 + a) b) (kp_l L un K 1) (kp_n un + 1)) => ⟨rY.1, ?_⟩)
      · refine br_t (show tn_c K a b < 0 by omega) ?_
        refine And.intro (Or.inl rfl) ?_
        show Q (some (vi 0)) (v1_m (v1_m m sk1) sk2)
        have e2n : o_2 k (K, D, dn, lt) = none := by
          unfold o_2
          rw [if_neg (fun z => by rcases z with z | z <;> first | (rw [eA] at z; cases z.2) | (rw [eB] at z; cases z.2)), if_pos (by rw [(show o_c K k.1 (s_ml ((k.2.1 (o_E K dn lt)).getD 0)) (s_ml ((k.2.2.1 (o_E K dn lt)).getD 0)) = tn_c K a b by rw [hh, eA, eB]; exact (tn_ms hK.1).1)]; exact q)]
        exact hno e2n _ (O_Gt (O_Gc v1_e) (O_Gc v1_e)) rM
      · refine br_f (show ¬ (v < 0) by omega) ?_
        refine And.intro (Or.inr rfl) ?_
        show Q (some (vi 1)) (Y)
        have e2y : o_2 k (K, D, dn, lt) = some (o_n k (K, D, dn, lt)) := by
          unfold o_2
          rw [if_neg (fun z => by rcases z with z | z <;> first | (rw [eA] at z; cases z.2) | (rw [eB] at z; cases z.2)), if_neg (by rw [(show o_c K k.1 (s_ml ((k.2.1 (o_E K dn lt)).getD 0)) (s_ml ((k.2.2.1 (o_E K dn lt)).getD 0)) = tn_c K a b by rw [hh, eA, eB]; exact (tn_ms hK.1).1)]; omega)]
        have eK : (o_n k (K, D, dn, lt)).1 = (cw_up K (6 + a) b) := (show o_k K k.1 (s_ml ((k.2.1 (o_E K dn lt)).getD 0)) (s_ml ((k.2.2.1 (o_E K dn lt)).getD 0)) = (cw_up K (6 + a) b) by rw [hh, eA, eB]; show cw_up K (6 + s_ml a) (s_ml b) = _; rw [((tn_ms hK.1).2 q).1, ((tn_ms hK.1).2 q).2])
        have yw : Y x_orderSums_words_ = m x_orderSums_words_ := gY.1 _ (by decide)
        have el : (o_n k (K, D, dn, lt)).2.2.2 = lt := by
          unfold o_n
          show (if k.1 = 0 then ((R_K (o_n k (K, D, dn, lt)).1).length : Int) else lt) = _
          rw [if_neg (by omega)]
        refine hyes e2y Y (O_Gt (O_Gt (O_Gc v1_e) (O_Gc v1_e)) (O_GF gY)) ?_ ?_ ?_
        · rw [eK, hh]; exact rY
        · rw [yw]; exact e1
        · rw [el, yw]; exact e2
    · refine And.intro (Or.inl rfl) ?_
      show Q (some (vi 0)) (v1_m (v1_m m sk1) sk2)
      refine hno ?_ _ (O_Gt (O_Gc v1_e) (O_Gc v1_e)) (O_Rc (O_Rc hR (v1_m_ok hm) v1_e) (v1_m_ok (v1_m_ok hm)) v1_e)
      unfold o_2
      rw [if_pos]
      first
        | exact Or.inl ⟨by rw [hh]; decide, by rw [← vA.1]; exact gd_n (fun x q => by rw [vA.1] at q; exact vA.2 x q) c_A⟩
        | exact Or.inr ⟨by rw [hh]; decide, by rw [← vB.1]; exact gd_n (fun x q => by rw [vB.1] at q; exact vB.2 x q) (Classical.not_not.mp c_B)⟩
theorem C_runClause2 {d : Nat} {m : cw_M} {Q : Option cw_V → cw_M → Prop} {K L : Int → Int} {un dn lt c : Int} {D : List o_D} {Ks : List p_K} {k : p_K} (hR : O_R m K L un) (hT : ∀ j, 0 ≤ j → j < 7 → m cw_TREES j = t_c j) (hc9 : m cw_TERM 0 = 999) (ht : X_t true m Ks) (hc : 0 ≤ c ∧ c < 12) (hk : Ks[c.toNat]? = some k) (hw : ∀ i, 0 ≤ i → i < 17 → m x_orderSums_words_ i = (o_E K dn lt) i) (hdn : 0 ≤ dn ∧ dn ≤ 1000) (hlt : -1 ≤ lt ∧ lt ≤ 132) (hno : o_2 k (K, D, dn, lt) = none → ∀ Y, O_G m Y → O_R Y K L un → Q (some (vi 0)) Y) (hyes : o_2 k (K, D, dn, lt) = some (o_n k (K, D, dn, lt)) → ∀ Y, O_G m Y → O_R Y (o_n k (K, D, dn, lt)).1 (kp_l L un K k.1) (kp_n un + 1) → Y x_orderSums_words_ 1 = dn → Y x_orderSums_words_ 2 = (o_n k (K, D, dn, lt)).2.2.2 → Q (some (vi 1)) Y) (hh : k.1 = 2) : cw_C (d + 10) k_C_runClause [vr x_, vr x_reader_text_, vi c] m Q := by
  obtain ⟨hm, ⟨hK, hW, hZ, hE0⟩, hG⟩ := hR
  have hR : O_R m K L un := ⟨hm, ⟨hK, hW, hZ, hE0⟩, hG⟩
  have cl := ht.1 c.toNat k hk
  rw [show ((c.toNat : Nat) : Int) = c by omega] at cl
  obtain ⟨ehd, ere, efi, ese, ete⟩ := cl
  have hE := o_Er (dn := dn) (lt := lt) hK hdn hlt
  have hwb : ∀ i, 0 ≤ i → i < 17 → -1000000 ≤ m x_orderSums_words_ i ∧ m x_orderSums_words_ i ≤ 1000000 := fun i a b => by rw [hw i a b]; exact hE i a b
  have e1 : m x_orderSums_words_ 1 = dn := hw 1 (by decide) (by decide)
  have e2 : m x_orderSums_words_ 2 = lt := hw 2 (by decide) (by decide)
  rw [hh] at efi ese ehd
  have pA : e_pt (m x_reader_text_code_) (m x_reader_text_ 1) (m x_reader_text_first_ c) (some k.2.1) := efi
  have vA := O_D2 ht.2.1 ht.2.2.1 hw hE pA
  have nA := (e_ptv (sk := fun _ => 0) (W := fun _ => 0) pA).1
  have pB : m x_reader_text_second_ c = -1 := ese
  refine la_go_C hm 37 [82] ?_
  refine And.intro (show 0 ≤ c ∧ c < 12 by omega) ?_
  refine br_t (show m x_reader_text_first_ c ≠ (-1) by omega) ?_
  refine And.intro (show 0 ≤ c ∧ c < 12 by omega) ?_
  show cw_C _ _ [vr x_orderSums_, vr x_reader_text_, vi (m x_reader_text_first_ c)] (m) _
  refine O_ev hm ht hwb pA (fun (sk1 : Int → Int) => ⟨(v1_m_ok hm), ?_⟩)
  refine And.intro (show 0 ≤ c ∧ c < 12 by omega) ?_
  refine br_f (show ¬ (m x_reader_text_second_ c ≠ (-1)) by omega) ?_
  refine And.intro (fun (c_A : (k.2.1 (m x_orderSums_words_)).getD (-2000000000) = (-2000000000)) => ?_) (fun (c_A : ¬ ((k.2.1 (m x_orderSums_words_)).getD (-2000000000) = (-2000000000))) => ?_)
  · refine And.intro (Or.inl rfl) ?_
    show Q (some (vi 0)) (v1_m m sk1)
    refine hno ?_ _ (O_Gc v1_e) (O_Rc hR (v1_m_ok hm) v1_e)
    unfold o_2
    rw [if_pos]
    first
      | exact Or.inl ⟨by rw [hh]; decide, by rw [← vA.1]; exact gd_n (fun x q => by rw [vA.1] at q; exact vA.2 x q) c_A⟩
      | exact Or.inr ⟨by rw [hh]; decide, by rw [← vB.1]; exact gd_n (fun x q => by rw [vB.1] at q; exact vB.2 x q) (Classical.not_not.mp c_B)⟩
  · refine br_t (show (0 : Int) ≠ (-2000000000) by decide) ?_
    refine And.intro (show 0 ≤ c ∧ c < 12 by omega) ?_
    show cw_R _ _ 82 [vr x_, vr x_reader_text_, vi c, vi ((k.2.1 (m x_orderSums_words_)).getD (-2000000000)), vi 0, none] [vi (m x_reader_text_head_ c)] (v1_m m sk1) _
    have gA : k.2.1 (o_E K dn lt) ≠ none := fun z => by rw [vA.1, z] at c_A; exact c_A rfl
    obtain ⟨a, eA⟩ := Option.ne_none_iff_exists'.mp gA
    have vA2 : (k.2.1 (m x_orderSums_words_)).getD (-2000000000) = a := by rw [vA.1, eA]; rfl
    have rM : O_R (v1_m m sk1) K L un := (O_Rc hR (v1_m_ok hm) v1_e)
    have ehd2 : (v1_m m sk1) x_reader_text_head_ c = 2 := ehd
    rw [ehd, vA2]
    refine la_go_R (v1_m_ok hm) 11 [] ?_
    show cw_C _ _ [vr x_, vi a] (v1_m m sk1) _
    refine O_die rM (fun (q : di_c K a < 0) => ⟨(v1_m_ok hm), ?_⟩) (fun (q : di_c K a = 0) (Y : cw_M) (v : Int) (hv : 0 ≤ v) (gY : O_F (v1_m m sk1) Y) (rY : O_R Y (cw_up K (12 + a) 0) (kp_l L un K 2) (kp_n un + 1)) => ⟨rY.1, ?_⟩)
    · refine br_t (show di_c K a < 0 by omega) ?_
      refine And.intro (Or.inl rfl) ?_
      show Q (some (vi 0)) (v1_m m sk1)
      have e2n : o_2 k (K, D, dn, lt) = none := by
        unfold o_2
        rw [if_neg (fun z => by rcases z with z | z <;> first | (rw [eA] at z; cases z.2) | (have := z.1; omega)), if_pos (by rw [(show o_c K k.1 (s_ml ((k.2.1 (o_E K dn lt)).getD 0)) (s_ml ((k.2.2.1 (o_E K dn lt)).getD 0)) = di_c K a by rw [hh, eA]; exact di_ms.1)]; exact q)]
      exact hno e2n _ (O_Gc v1_e) rM
    · refine br_f (show ¬ (v < 0) by omega) ?_
      refine And.intro (Or.inr rfl) ?_
      show Q (some (vi 1)) (Y)
      have e2y : o_2 k (K, D, dn, lt) = some (o_n k (K, D, dn, lt)) := by
        unfold o_2
        rw [if_neg (fun z => by rcases z with z | z <;> first | (rw [eA] at z; cases z.2) | (have := z.1; omega)), if_neg (by rw [(show o_c K k.1 (s_ml ((k.2.1 (o_E K dn lt)).getD 0)) (s_ml ((k.2.2.1 (o_E K dn lt)).getD 0)) = di_c K a by rw [hh, eA]; exact di_ms.1)]; omega)]
      have eK : (o_n k (K, D, dn, lt)).1 = (cw_up K (12 + a) 0) := (show o_k K k.1 (s_ml ((k.2.1 (o_E K dn lt)).getD 0)) (s_ml ((k.2.2.1 (o_E K dn lt)).getD 0)) = (cw_up K (12 + a) 0) by rw [hh, eA]; show cw_up K (12 + s_ml a) 0 = _; rw [di_ms.2 q])
      have yw : Y x_orderSums_words_ = m x_orderSums_words_ := gY.1 _ (by decide)
      have el : (o_n k (K, D, dn, lt)).2.2.2 = lt := by
        unfold o_n
        show (if k.1 = 0 then ((R_K (o_n k (K, D, dn, lt)).1).length : Int) else lt) = _
        rw [if_neg (by omega)]
      refine hyes e2y Y (O_Gt (O_Gc v1_e) (O_GF gY)) ?_ ?_ ?_
      · rw [eK, hh]; exact rY
      · rw [yw]; exact e1
      · rw [el, yw]; exact e2
theorem C_runClause3 {d : Nat} {m : cw_M} {Q : Option cw_V → cw_M → Prop} {K L : Int → Int} {un dn lt c : Int} {D : List o_D} {Ks : List p_K} {k : p_K} (hR : O_R m K L un) (hT : ∀ j, 0 ≤ j → j < 7 → m cw_TREES j = t_c j) (hc9 : m cw_TERM 0 = 999) (ht : X_t true m Ks) (hc : 0 ≤ c ∧ c < 12) (hk : Ks[c.toNat]? = some k) (hw : ∀ i, 0 ≤ i → i < 17 → m x_orderSums_words_ i = (o_E K dn lt) i) (hdn : 0 ≤ dn ∧ dn ≤ 1000) (hlt : -1 ≤ lt ∧ lt ≤ 132) (hno : o_2 k (K, D, dn, lt) = none → ∀ Y, O_G m Y → O_R Y K L un → Q (some (vi 0)) Y) (hyes : o_2 k (K, D, dn, lt) = some (o_n k (K, D, dn, lt)) → ∀ Y, O_G m Y → O_R Y (o_n k (K, D, dn, lt)).1 (kp_l L un K k.1) (kp_n un + 1) → Y x_orderSums_words_ 1 = dn → Y x_orderSums_words_ 2 = (o_n k (K, D, dn, lt)).2.2.2 → Q (some (vi 1)) Y) (hh : k.1 = 3) : cw_C (d + 10) k_C_runClause [vr x_, vr x_reader_text_, vi c] m Q := by
  obtain ⟨hm, ⟨hK, hW, hZ, hE0⟩, hG⟩ := hR
  have hR : O_R m K L un := ⟨hm, ⟨hK, hW, hZ, hE0⟩, hG⟩
  have cl := ht.1 c.toNat k hk
  rw [show ((c.toNat : Nat) : Int) = c by omega] at cl
  obtain ⟨ehd, ere, efi, ese, ete⟩ := cl
  have hE := o_Er (dn := dn) (lt := lt) hK hdn hlt
  have hwb : ∀ i, 0 ≤ i → i < 17 → -1000000 ≤ m x_orderSums_words_ i ∧ m x_orderSums_words_ i ≤ 1000000 := fun i a b => by rw [hw i a b]; exact hE i a b
  have e1 : m x_orderSums_words_ 1 = dn := hw 1 (by decide) (by decide)
  have e2 : m x_orderSums_words_ 2 = lt := hw 2 (by decide) (by decide)
  rw [hh] at efi ese ehd
  have pA : m x_reader_text_first_ c = -1 := efi
  have pB : m x_reader_text_second_ c = -1 := ese
  refine la_go_C hm 31 [82] ?_
  refine And.intro (show 0 ≤ c ∧ c < 12 by omega) ?_
  refine br_f (show ¬ (m x_reader_text_first_ c ≠ (-1)) by omega) ?_
  refine And.intro (show 0 ≤ c ∧ c < 12 by omega) ?_
  refine br_f (show ¬ (m x_reader_text_second_ c ≠ (-1)) by omega) ?_
  refine br_f (show ¬ ((0 : Int) = (-2000000000)) by decide) ?_
  refine br_t (show (0 : Int) ≠ (-2000000000) by decide) ?_
  refine And.intro (show 0 ≤ c ∧ c < 12 by omega) ?_
  show cw_R _ _ 82 [vr x_, vr x_reader_text_, vi c, vi 0, vi 0, none] [vi (m x_reader_text_head_ c)] (m) _
  have rM : O_R m K L un := hR
  have ehd2 : m x_reader_text_head_ c = 3 := ehd
  rw [ehd]
  refine la_go_R hm 10 [] ?_
  show cw_C _ _ [vr x_] (m) _
  refine O_pass rM hc9 (fun (q : pa_c K < 0) => ⟨hm, ?_⟩) (fun (q : pa_c K = 0) (Y : cw_M) (v : Int) (hv : 0 ≤ v) (gY : O_F m Y) (rY : O_R Y (cw_up K 18 (K 18 + 1)) (kp_l L un K 3) (kp_n un + 1)) => ⟨rY.1, ?_⟩)
  · refine br_t (show pa_c K < 0 by omega) ?_
    refine And.intro (Or.inl rfl) ?_
    show Q (some (vi 0)) (m)
    have e2n : o_2 k (K, D, dn, lt) = none := by
      unfold o_2
      rw [if_neg (fun z => by rcases z with z | z <;> (have := z.1; omega)), if_pos (by rw [(show o_c K k.1 (s_ml ((k.2.1 (o_E K dn lt)).getD 0)) (s_ml ((k.2.2.1 (o_E K dn lt)).getD 0)) = pa_c K by rw [hh]; rfl)]; exact q)]
    exact hno e2n _ O_Gr rM
  · refine br_f (show ¬ (v < 0) by omega) ?_
    refine And.intro (Or.inr rfl) ?_
    show Q (some (vi 1)) (Y)
    have e2y : o_2 k (K, D, dn, lt) = some (o_n k (K, D, dn, lt)) := by
      unfold o_2
      rw [if_neg (fun z => by rcases z with z | z <;> (have := z.1; omega)), if_neg (by rw [(show o_c K k.1 (s_ml ((k.2.1 (o_E K dn lt)).getD 0)) (s_ml ((k.2.2.1 (o_E K dn lt)).getD 0)) = pa_c K by rw [hh]; rfl)]; omega)]
    have eK : (o_n k (K, D, dn, lt)).1 = (cw_up K 18 (K 18 + 1)) := (show o_k K k.1 (s_ml ((k.2.1 (o_E K dn lt)).getD 0)) (s_ml ((k.2.2.1 (o_E K dn lt)).getD 0)) = (cw_up K 18 (K 18 + 1)) by rw [hh]; rfl)
    have yw : Y x_orderSums_words_ = m x_orderSums_words_ := gY.1 _ (by decide)
    have el : (o_n k (K, D, dn, lt)).2.2.2 = lt := by
      unfold o_n
      show (if k.1 = 0 then ((R_K (o_n k (K, D, dn, lt)).1).length : Int) else lt) = _
      rw [if_neg (by omega)]
    refine hyes e2y Y (O_Gt O_Gr (O_GF gY)) ?_ ?_ ?_
    · rw [eK, hh]; exact rY
    · rw [yw]; exact e1
    · rw [el, yw]; exact e2
