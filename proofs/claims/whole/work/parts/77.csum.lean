/-! The class reads sums (wip/whole/tools/m77.py). -/
def e_ok (co : Int → Int) (sz : Int) : Prop := ∀ j, 0 ≤ j → j < sz → 0 ≤ co j ∧ co j < 16384
theorem e_okup {co : Int → Int} {sz w : Int} (h : e_ok co sz) (hw : 0 ≤ w ∧ w < 16384) : e_ok (cw_up co sz w) (sz + 1) := by
  intro j h0 h1
  by_cases e : j = sz
  · rw [e, cw_up_eq]; exact hw
  · rw [cw_up_ne e]; exact h j h0 (by omega)
def e_g (co : Int → Int) (sz : Int) (co1 : Int → Int) (sz1 i i1 : Int) : Prop := sz ≤ sz1 ∧ sz1 - sz ≤ i1 - i ∧ (∀ j, j < sz → co1 j = co j) ∧ e_ok co1 sz1
theorem e_gt {co co1 co2 : Int → Int} {sz sz1 sz2 i i1 i2 : Int} (h1 : e_g co sz co1 sz1 i i1) (h2 : e_g co1 sz1 co2 sz2 i1 i2) : e_g co sz co2 sz2 i i2 :=
  ⟨by have := h1.1; have := h2.1; omega, by have := h1.2.1; have := h2.2.1; omega, fun j hj => by rw [h2.2.2.1 j (by have := h1.1; omega), h1.2.2.1 j hj], h2.2.2.2⟩
theorem e_gw {co co1 : Int → Int} {sz sz1 i i1 i' i1' : Int} (h1 : e_g co sz co1 sz1 i i1) (h : i1 - i ≤ i1' - i') : e_g co sz co1 sz1 i' i1' :=
  ⟨h1.1, by have := h1.2.1; omega, h1.2.2⟩
theorem e_g1 {co : Int → Int} {sz w i i1 : Int} (h : e_ok co sz) (hw : 0 ≤ w ∧ w < 16384) (hi : 1 ≤ i1 - i) : e_g co sz (cw_up co sz w) (sz + 1) i i1 :=
  ⟨by omega, by omega, fun j hj => cw_up_ne (by omega), e_okup h hw⟩
theorem e_lp {co co1 : Int → Int} {a0 sz sz1 l0 l i i1 op q : Int} {A D : p_D} (hs : e_sg co a0 sz l0 A) (hg : e_g co sz co1 sz1 (i + 1) i1) (hS : e_sg co1 sz sz1 l D) (hl : l0 + 1 ≤ l) (ha : a0 ≤ sz) (hop : e_bo op q) (hop2 : 0 ≤ op ∧ op < 16) : e_g co sz (cw_up co1 sz1 (16 * 0 + op)) (sz1 + 1) i i1 ∧ e_sg (cw_up co1 sz1 (16 * 0 + op)) a0 (sz1 + 1) l0 (p_bin q A D) := by
  have g1 := hg.1
  have g2 := hg.2.1
  refine ⟨⟨by omega, by omega, fun j hj => by rw [cw_up_ne (by omega), hg.2.2.1 j hj], e_okup hg.2.2.2 (by omega)⟩, ?_⟩
  refine e_bn (e_sgc hs (fun i a b => by rw [cw_up_ne (by omega), hg.2.2.1 i b])) (e_sgc hS (fun i a b => cw_up_ne (by omega))) hl ha g1 ?_ hop
  rw [cw_up_eq]; omega
theorem p_lwr {c : Int} (h : 8 ≤ c ∧ c ≤ 15) : 0 ≤ p_lw c ∧ p_lw c < 8 := by
  unfold p_lw
  split
  · omega
  · split <;> omega
def e_sr1 (op q : Int) : Prop := (op = 8 ∧ q = 142) ∨ (op = 9 ∧ q = 147) ∨ (op = 10 ∧ q = 137) ∨ (op = -1 ∧ ¬ (q = 142 ∨ q = 147 ∨ q = 137))
def e_sr2 (op q : Int) : Prop := (op = 6 ∧ q = 143) ∨ (op = 7 ∧ q = 145) ∨ (op = -1 ∧ ¬ (q = 143 ∨ q = 145))
theorem e_sr1a {op q : Int} (h : e_sr1 op q) (hn : ¬ (op = -1)) : e_bo op q ∧ (0 ≤ op ∧ op < 16) ∧ (q = 142 ∨ q = 147 ∨ q = 137) ∧ q ≠ 0 := by
  unfold e_sr1 at h; unfold e_bo; omega
theorem e_sr1b {op q : Int} (h : e_sr1 op q) (hn : op = -1) : ¬ (q = 142 ∨ q = 147 ∨ q = 137) := by
  unfold e_sr1 at h; omega
theorem e_sr2a {op q : Int} (h : e_sr2 op q) (hn : ¬ (op = -1)) : e_bo op q ∧ (0 ≤ op ∧ op < 16) ∧ (q = 143 ∨ q = 145) ∧ q ≠ 0 := by
  unfold e_sr2 at h; unfold e_bo; omega
theorem e_sr2b {op q : Int} (h : e_sr2 op q) (hn : op = -1) : ¬ (q = 143 ∨ q = 145) := by
  unfold e_sr2 at h; omega
theorem Re_termSign {d : Nat} {m : cw_M} {Q : Option cw_V → cw_M → Prop} (hm0 : la_ok m) {tk : Int} (hX : X_h m tk) {co hd fi se te re : Int → Int} {fa pa op cl sz : Int} {i : Int} (h0 : x_c m i = 142 → Q (some (vi 8)) (q_m m co hd fi se te re fa (x_P m i) (x_E m i) pa op cl sz)) (h1 : x_c m i = 147 → Q (some (vi 9)) (q_m m co hd fi se te re fa (x_P m i) (x_E m i) pa op cl sz)) (h2 : x_c m i = 137 → Q (some (vi 10)) (q_m m co hd fi se te re fa (x_P m i) (x_E m i) pa op cl sz)) (hn : ¬ (x_c m i = 142 ∨ x_c m i = 147 ∨ x_c m i = 137) → Q (some (vi (-1))) (q_m m co hd fi se te re fa (x_P m i) (x_E m i) pa op cl sz)) : cw_C (d + 1) k_Re_termSign [vr x_reader_] (q_m m co hd fi se te re fa (x_P m i) (x_E m i) pa op cl sz) Q := by
  have hm : la_ok (q_m m co hd fi se te re fa (x_P m i) (x_E m i) pa op cl sz) := q_m_ok hm0
  refine la_go_C hm 18 [] ?_
  show cw_C _ _ [vr x_reader_, vi 42] (q_m m co hd fi se te re fa (x_P m i) (x_E m i) pa op cl sz) _
  refine Rt_isSign hm0 hX (by decide) (by decide) (by decide) rfl (fun (a1 : x_c m i = 142) => ⟨hm, ?_⟩) (fun (a1 : x_c m i ≠ 142) => ⟨hm, ?_⟩)
  · refine br_f (show ¬ ((1 : Int) = 0) by decide) ?_
    show Q (some (vi 8)) (q_m m co hd fi se te re fa (x_P m i) (x_E m i) pa op cl sz)
    exact h0 (by omega)
  · refine br_t (show (0 : Int) = 0 by decide) ?_
    show cw_C _ _ [vr x_reader_, vi 47] (q_m m co hd fi se te re fa (x_P m i) (x_E m i) pa op cl sz) _
    refine Rt_isSign hm0 hX (by decide) (by decide) (by decide) rfl (fun (a2 : x_c m i = 147) => ⟨hm, ?_⟩) (fun (a2 : x_c m i ≠ 147) => ⟨hm, ?_⟩)
    · refine br_f (show ¬ ((1 : Int) = 0) by decide) ?_
      show Q (some (vi 9)) (q_m m co hd fi se te re fa (x_P m i) (x_E m i) pa op cl sz)
      exact h1 (by omega)
    · refine br_t (show (0 : Int) = 0 by decide) ?_
      show cw_C _ _ [vr x_reader_, vi 37] (q_m m co hd fi se te re fa (x_P m i) (x_E m i) pa op cl sz) _
      refine Rt_isSign hm0 hX (by decide) (by decide) (by decide) rfl (fun (a3 : x_c m i = 137) => ⟨hm, ?_⟩) (fun (a3 : x_c m i ≠ 137) => ⟨hm, ?_⟩)
      · refine br_f (show ¬ ((1 : Int) = 0) by decide) ?_
        show Q (some (vi 10)) (q_m m co hd fi se te re fa (x_P m i) (x_E m i) pa op cl sz)
        exact h2 (by omega)
      · refine br_t (show (0 : Int) = 0 by decide) ?_
        show Q (some (vi (-1))) (q_m m co hd fi se te re fa (x_P m i) (x_E m i) pa op cl sz)
        exact hn (by omega)
theorem Re_sumSign {d : Nat} {m : cw_M} {Q : Option cw_V → cw_M → Prop} (hm0 : la_ok m) {tk : Int} (hX : X_h m tk) {co hd fi se te re : Int → Int} {fa pa op cl sz : Int} {i : Int} (h0 : x_c m i = 143 → Q (some (vi 6)) (q_m m co hd fi se te re fa (x_P m i) (x_E m i) pa op cl sz)) (h1 : x_c m i = 145 → Q (some (vi 7)) (q_m m co hd fi se te re fa (x_P m i) (x_E m i) pa op cl sz)) (hn : ¬ (x_c m i = 143 ∨ x_c m i = 145) → Q (some (vi (-1))) (q_m m co hd fi se te re fa (x_P m i) (x_E m i) pa op cl sz)) : cw_C (d + 1) k_Re_sumSign [vr x_reader_] (q_m m co hd fi se te re fa (x_P m i) (x_E m i) pa op cl sz) Q := by
  have hm : la_ok (q_m m co hd fi se te re fa (x_P m i) (x_E m i) pa op cl sz) := q_m_ok hm0
  refine la_go_C hm 14 [] ?_
  show cw_C _ _ [vr x_reader_, vi 43] (q_m m co hd fi se te re fa (x_P m i) (x_E m i) pa op cl sz) _
  refine Rt_isSign hm0 hX (by decide) (by decide) (by decide) rfl (fun (a1 : x_c m i = 143) => ⟨hm, ?_⟩) (fun (a1 : x_c m i ≠ 143) => ⟨hm, ?_⟩)
  · refine br_f (show ¬ ((1 : Int) = 0) by decide) ?_
    show Q (some (vi 6)) (q_m m co hd fi se te re fa (x_P m i) (x_E m i) pa op cl sz)
    exact h0 (by omega)
  · refine br_t (show (0 : Int) = 0 by decide) ?_
    show cw_C _ _ [vr x_reader_, vi 45] (q_m m co hd fi se te re fa (x_P m i) (x_E m i) pa op cl sz) _
    refine Rt_isSign hm0 hX (by decide) (by decide) (by decide) rfl (fun (a2 : x_c m i = 145) => ⟨hm, ?_⟩) (fun (a2 : x_c m i ≠ 145) => ⟨hm, ?_⟩)
    · refine br_f (show ¬ ((1 : Int) = 0) by decide) ?_
      show Q (some (vi 7)) (q_m m co hd fi se te re fa (x_P m i) (x_E m i) pa op cl sz)
      exact h1 (by omega)
    · refine br_t (show (0 : Int) = 0 by decide) ?_
      show Q (some (vi (-1))) (q_m m co hd fi se te re fa (x_P m i) (x_E m i) pa op cl sz)
      exact hn (by omega)
theorem p_wn0 {c k : Int} (h : c ≠ 20 ∧ c ≠ 21) : p_wn true c k = c - 15 := by
  unfold p_wn; rw [if_pos rfl, if_neg h.1, if_neg h.2]
theorem p_wn20 {c k : Int} (h : c = 20) : p_wn true c k = 5 + k := by
  unfold p_wn; rw [if_pos rfl, if_pos h]
theorem p_wn21 {c k : Int} (h : c = 21) : p_wn true c k = 11 + k := by
  unfold p_wn; rw [if_pos rfl, if_neg (by omega), if_pos h]
set_option maxHeartbeats 8000000 in
theorem Re_S {m : cw_M} (hm0 : la_ok m) {tk : Int} (hX : X_h m tk) {o : Bool} (hlaw : m x_reader_ 4 = if o = true then 0 else 1) : ∀ (f : Nat), (∀ (d : Nat) (dp i l : Int) (acc : p_D) (co : Int → Int) (sz : Int) (hd fi se te re : Int → Int) (fa cl : Int) (Q : Option cw_V → cw_M → Prop), 0 ≤ i → i ≤ tk → 0 ≤ l → l ≤ 50 → 0 ≤ dp → dp ≤ 8 → 0 ≤ sz → sz ≤ i → e_ok co sz → 29 - 3 * dp ≤ d → 1 + 5 * (tk - i) ≤ f → (∀ i1 l1 D co1 sz1, p_s (x_c m) (x_v m) o f 0 dp i l acc = .ok (i1, l1, D) → e_g co sz co1 sz1 i i1 → e_sg co1 sz sz1 l D → Q (some (vi 1)) (q_m m co1 hd fi se te re fa (x_P m i1) (x_E m i1) l1 dp cl sz1)) → (∀ er co1 st1 sp1 pa1 op1 sz1, p_s (x_c m) (x_v m) o f 0 dp i l acc = .error er → Q (some (vi 0)) (q_m m co1 hd fi se te re (x_P m er) st1 sp1 pa1 op1 cl sz1)) → cw_C d k_Re_part [vr x_reader_] (q_m m co hd fi se te re fa (x_P m i) (x_E m i) l dp cl sz) Q) ∧ (∀ (d : Nat) (dp i l : Int) (acc : p_D) (co : Int → Int) (sz : Int) (hd fi se te re : Int → Int) (fa cl : Int) (Q : Option cw_V → cw_M → Prop), 0 ≤ i → i ≤ tk → 0 ≤ l → l ≤ 50 → 0 ≤ dp → dp ≤ 8 → 0 ≤ sz → sz ≤ i → e_ok co sz → 30 - 3 * dp ≤ d → 2 + 5 * (tk - i) ≤ f → (∀ i1 l1 D co1 sz1, p_s (x_c m) (x_v m) o f 1 dp i l acc = .ok (i1, l1, D) → e_g co sz co1 sz1 i i1 → e_sg co1 sz sz1 l D → Q (some (vi 1)) (q_m m co1 hd fi se te re fa (x_P m i1) (x_E m i1) l1 dp cl sz1)) → (∀ er co1 st1 sp1 pa1 op1 sz1, p_s (x_c m) (x_v m) o f 1 dp i l acc = .error er → Q (some (vi 0)) (q_m m co1 hd fi se te re (x_P m er) st1 sp1 pa1 op1 cl sz1)) → cw_C d k_Re_sum [vr x_reader_, vi 1] (q_m m co hd fi se te re fa (x_P m i) (x_E m i) l dp cl sz) Q) ∧ (∀ (d : Nat) (dp i l : Int) (acc : p_D) (co : Int → Int) (sz : Int) (hd fi se te re : Int → Int) (fa cl : Int) (Q : Option cw_V → cw_M → Prop) (a0 l0 opv cnt : Int), 0 ≤ i → i ≤ tk → 0 ≤ l → l ≤ 50 → 0 ≤ dp → dp ≤ 8 → 0 ≤ sz → sz ≤ i → e_ok co sz → 30 - 3 * dp ≤ d → 1 + 5 * (tk - i) ≤ f → 0 ≤ a0 → a0 ≤ sz → l0 + 1 ≤ l → e_sg co a0 sz l0 acc → e_sr1 opv (x_c m i) → 0 ≤ cnt → cnt ≤ i → (∀ i1 l1 D co1 sz1, p_s (x_c m) (x_v m) o f 2 dp i l acc = .ok (i1, l1, D) → e_g co sz co1 sz1 i i1 → e_sg co1 a0 sz1 l0 D → Q (some (vi 1)) (q_m m co1 hd fi se te re fa (x_P m i1) (x_E m i1) l1 dp cl sz1)) → (∀ er co1 st1 sp1 pa1 op1 sz1, p_s (x_c m) (x_v m) o f 2 dp i l acc = .error er → Q (some (vi 0)) (q_m m co1 hd fi se te re (x_P m er) st1 sp1 pa1 op1 cl sz1)) → cw_R d k_Re_sum 42 [vr x_reader_, vi 1, vi opv, vi cnt] [] (q_m m co hd fi se te re fa (x_P m i) (x_E m i) l dp cl sz) Q) ∧ (∀ (d : Nat) (dp i l : Int) (acc : p_D) (co : Int → Int) (sz : Int) (hd fi se te re : Int → Int) (fa cl : Int) (Q : Option cw_V → cw_M → Prop), 0 ≤ i → i ≤ tk → 0 ≤ l → l ≤ 50 → 0 ≤ dp → dp ≤ 8 → 0 ≤ sz → sz ≤ i → e_ok co sz → 31 - 3 * dp ≤ d → 3 + 5 * (tk - i) ≤ f → (∀ i1 l1 D co1 sz1, p_s (x_c m) (x_v m) o f 3 dp i l acc = .ok (i1, l1, D) → e_g co sz co1 sz1 i i1 → e_sg co1 sz sz1 l D → Q (some (vi 1)) (q_m m co1 hd fi se te re fa (x_P m i1) (x_E m i1) l1 dp cl sz1)) → (∀ er co1 st1 sp1 pa1 op1 sz1, p_s (x_c m) (x_v m) o f 3 dp i l acc = .error er → Q (some (vi 0)) (q_m m co1 hd fi se te re (x_P m er) st1 sp1 pa1 op1 cl sz1)) → cw_C d k_Re_sum [vr x_reader_, vi 0] (q_m m co hd fi se te re fa (x_P m i) (x_E m i) l dp cl sz) Q) ∧ (∀ (d : Nat) (dp i l : Int) (acc : p_D) (co : Int → Int) (sz : Int) (hd fi se te re : Int → Int) (fa cl : Int) (Q : Option cw_V → cw_M → Prop) (a0 l0 opv cnt : Int), 0 ≤ i → i ≤ tk → 0 ≤ l → l ≤ 50 → 0 ≤ dp → dp ≤ 8 → 0 ≤ sz → sz ≤ i → e_ok co sz → 31 - 3 * dp ≤ d → 1 + 5 * (tk - i) ≤ f → 0 ≤ a0 → a0 ≤ sz → l0 + 1 ≤ l → e_sg co a0 sz l0 acc → e_sr2 opv (x_c m i) → 0 ≤ cnt → cnt ≤ i → (∀ i1 l1 D co1 sz1, p_s (x_c m) (x_v m) o f 4 dp i l acc = .ok (i1, l1, D) → e_g co sz co1 sz1 i i1 → e_sg co1 a0 sz1 l0 D → Q (some (vi 1)) (q_m m co1 hd fi se te re fa (x_P m i1) (x_E m i1) l1 dp cl sz1)) → (∀ er co1 st1 sp1 pa1 op1 sz1, p_s (x_c m) (x_v m) o f 4 dp i l acc = .error er → Q (some (vi 0)) (q_m m co1 hd fi se te re (x_P m er) st1 sp1 pa1 op1 cl sz1)) → cw_R d k_Re_sum 42 [vr x_reader_, vi 0, vi opv, vi cnt] [] (q_m m co hd fi se te re fa (x_P m i) (x_E m i) l dp cl sz) Q)
  | 0 => ⟨fun d dp i l acc co sz hd fi se te re fa cl Q a1 a2 a3 a4 a5 a6 a7 a8 a9 a10 a11 => by omega, fun d dp i l acc co sz hd fi se te re fa cl Q a1 a2 a3 a4 a5 a6 a7 a8 a9 a10 a11 => by omega, fun d dp i l acc co sz hd fi se te re fa cl Q a0 l0 opv cnt a1 a2 a3 a4 a5 a6 a7 a8 a9 a10 a11 => by omega, fun d dp i l acc co sz hd fi se te re fa cl Q a1 a2 a3 a4 a5 a6 a7 a8 a9 a10 a11 => by omega, fun d dp i l acc co sz hd fi se te re fa cl Q a0 l0 opv cnt a1 a2 a3 a4 a5 a6 a7 a8 a9 a10 a11 => by omega⟩
  | f + 1 => by
    have ih := Re_S hm0 hX hlaw f
    have hz : x_c m tk = 0 := k_Cz hX.2.2.2
    have tkn : 0 ≤ tk ∧ tk ≤ 400 := ⟨hX.2.2.2.1.1, by have := hX.2.2.2.1.2; have := hX.2.1; omega⟩
    have ltn : ∀ z, 0 ≤ z → z ≤ tk → x_c m z ≠ 0 → z < tk := fun z _ _ q => by
      by_cases e : z = tk
      · rw [e] at q; exact absurd hz q
      · omega
    refine ⟨?_, ?_, ?_, ?_, ?_⟩
    · cases o with
      | true =>
        intro d0 dp i l acc co sz hd fi se te re fa cl Q h0 h1 hl0 hl1 hd0 hd8 hz0 hzi he0 hd_ hf hok her
        obtain ⟨d, rfl⟩ : ∃ k, d0 = k + 5 := ⟨d0 - 5, by omega⟩
        have hm : la_ok (q_m m co hd fi se te re fa (x_P m i) (x_E m i) l dp cl sz) := q_m_ok hm0
        have hlt : x_c m i ≠ 0 → i < tk := ltn i h0 h1
        have hlw : m x_reader_ 4 = 0 := hlaw
        have hin : x_c m i = 191 ∨ x_c m i = 50 ∨ (8 ≤ x_c m i ∧ x_c m i ≤ 21) → i < tk := fun q => hlt (by omega)
        refine la_go_C hm 72 [] ?_
        show cw_C _ _ [vr x_reader_, vi 91] (q_m m co hd fi se te re fa (x_P m i) (x_E m i) l dp cl sz) _
        refine Rt_isSign hm0 hX (by decide) (by decide) (by decide) rfl (fun (a1 : x_c m i = 191) => ⟨hm, ?_⟩) (fun (a1 : x_c m i ≠ 191) => ⟨hm, ?_⟩)
        · refine br_f (show ¬ ((1 : Int) = 0) by decide) ?_
          refine And.intro (fun (c2 : dp < 8) => ?_) (fun (c2 : ¬ (dp < 8)) => ?_)
          · refine And.intro (show -2147483648 ≤ dp + 1 ∧ dp + 1 < 2147483648 by omega) ?_
            have hm3 : la_ok (cw_put (q_m m co hd fi se te re fa (x_P m i) (x_E m i) l dp cl sz) x_reader_ 8 (dp + 1)) := la_put hm (by decide) (Or.inl rfl)
            show cw_C _ _ [vr x_reader_] (cw_put (q_m m co hd fi se te re fa (x_P m i) (x_E m i) l dp cl sz) x_reader_ 8 (dp + 1)) _
            rw [q_m_fop]
            have hm4 : la_ok (q_m m co hd fi se te re fa (x_P m i) (x_E m i) l (dp + 1) cl sz) := q_m_ok hm0
            refine Rt_advance hm0 hX (by omega) ⟨(q_m_ok hm0), ?_⟩
            show cw_C _ _ [vr x_reader_, vi 0] (q_m m co hd fi se te re fa (x_P m (i + 1)) (x_E m (i + 1)) l (dp + 1) cl sz) _
            refine ih.2.2.2.1 _ (dp + 1) (i + 1) l acc co sz hd fi se te re fa cl _ (by omega) (by omega) (by omega) (by omega) (by omega) (by omega) (by omega) (by omega) he0 (by omega) (by omega) (fun (i5 l5 : Int) (D5 : p_D) (co5 : Int → Int) (z5 : Int) (e5 : p_s (x_c m) (x_v m) true f 3 (dp + 1) (i + 1) l acc = .ok (i5, l5, D5)) (G5 : e_g co sz co5 z5 (i + 1) i5) (T5 : e_sg co5 sz z5 l D5) => ⟨(q_m_ok hm0), ?_⟩) (fun (r5 : Int) (co5 : Int → Int) (s5 q5 a5 p5 z5 : Int) (e5 : p_s (x_c m) (x_v m) true f 3 (dp + 1) (i + 1) l acc = .error r5) => ⟨(q_m_ok hm0), ?_⟩)
            · have N5 := p_Nok ((p_sN (c := x_c m) (v := x_v m) (o := true) hz f (dp := dp + 1) (i := i + 1) (l := l) (acc := acc) (by omega) (by omega) (by omega) (by omega)).2.2.2.1 (by omega)) e5
              have S5 := N5.2.2.2.2 rfl
              have G51 := G5.1
              have G52 := G5.2.1
              have L5 : x_c m i5 ≠ 0 → i5 < tk := ltn _ (by omega) (by omega)
              refine br_t (show (1 : Int) ≠ 0 by decide) ?_
              show cw_C _ _ [vr x_reader_, vi 93] (q_m m co5 hd fi se te re fa (x_P m i5) (x_E m i5) l5 (dp + 1) cl z5) _
              refine Rt_isSign hm0 hX (by decide) (by decide) (by decide) rfl (fun (a6 : x_c m i5 = 193) => ⟨(q_m_ok hm0), ?_⟩) (fun (a6 : x_c m i5 ≠ 193) => ⟨(q_m_ok hm0), ?_⟩)
              · refine br_t (show (1 : Int) ≠ 0 by decide) ?_
                refine And.intro (show -2147483648 ≤ (dp + 1) - 1 ∧ (dp + 1) - 1 < 2147483648 by omega) ?_
                have hm7 : la_ok (cw_put (q_m m co5 hd fi se te re fa (x_P m i5) (x_E m i5) l5 (dp + 1) cl z5) x_reader_ 8 ((dp + 1) - 1)) := la_put (q_m_ok hm0) (by decide) (Or.inl rfl)
                show cw_C _ _ [vr x_reader_] (cw_put (q_m m co5 hd fi se te re fa (x_P m i5) (x_E m i5) l5 (dp + 1) cl z5) x_reader_ 8 ((dp + 1) - 1)) _
                rw [q_m_fop]
                have hm8 : la_ok (q_m m co5 hd fi se te re fa (x_P m i5) (x_E m i5) l5 ((dp + 1) - 1) cl z5) := q_m_ok hm0
                refine Rt_advance hm0 hX (by omega) ⟨(q_m_ok hm0), ?_⟩
                refine And.intro (Or.inr rfl) ?_
                show Q (some (vi 1)) (q_m m co5 hd fi se te re fa (x_P m (i5 + 1)) (x_E m (i5 + 1)) l5 ((dp + 1) - 1) cl z5)
                rw [show dp + 1 - 1 = dp by omega]
                exact hok _ _ D5 _ _ (by rw [p_s0, if_pos (by omega), if_neg (by omega), e5]; show (if _ then _ else _) = _; rw [if_pos (by omega)]) (e_gw G5 (by omega)) T5
              · refine br_f (show ¬ ((0 : Int) ≠ 0) by decide) ?_
                show cw_C _ _ [vr x_reader_] (q_m m co5 hd fi se te re fa (x_P m i5) (x_E m i5) l5 (dp + 1) cl z5) _
                refine Re_fail hm0 ⟨(q_m_ok hm0), ?_⟩
                refine And.intro (Or.inl rfl) ?_
                show Q (some (vi 0)) (q_m m co5 hd fi se te re (x_P m i5) (x_P m i5) (x_E m i5) l5 (dp + 1) cl z5)
                exact her _ _ _ _ _ _ _ (by rw [p_s0, if_pos (by omega), if_neg (by omega), e5]; show (if _ then _ else _) = _; rw [if_neg (by omega)])
            · refine br_f (show ¬ ((0 : Int) ≠ 0) by decide) ?_
              refine And.intro (Or.inl rfl) ?_
              show Q (some (vi 0)) (q_m m co5 hd fi se te re (x_P m r5) s5 q5 a5 p5 cl z5)
              exact her r5 _ _ _ _ _ _ (by rw [p_s0, if_pos (by omega), if_neg (by omega), e5]; rfl)
          · show cw_C _ _ [vr x_reader_] (q_m m co hd fi se te re fa (x_P m i) (x_E m i) l dp cl sz) _
            refine Re_fail hm0 ⟨(q_m_ok hm0), ?_⟩
            refine And.intro (Or.inl rfl) ?_
            show Q (some (vi 0)) (q_m m co hd fi se te re (x_P m i) (x_P m i) (x_E m i) l dp cl sz)
            first
              | (exfalso; omega)
              | exact her _ _ _ _ _ _ _ (by rw [p_s0, if_pos (by omega), if_pos (by omega)])
              | exact her _ _ _ _ _ _ _ (by rw [p_s0, if_neg (by omega), if_neg (by rw [show p_fw true = 15 from rfl, show p_la true = 21 from rfl]; omega)])
              | exact her _ _ _ _ _ _ _ (by rw [p_s0, if_neg (by omega), if_pos (by rw [show p_fw true = 15 from rfl, show p_la true = 21 from rfl]; omega), if_pos (by omega)])
              | exact her _ _ _ _ _ _ _ (by rw [p_s0, if_neg (by omega), if_pos (by rw [show p_fw true = 15 from rfl, show p_la true = 21 from rfl]; omega), if_neg (by omega), if_neg (by omega), if_pos ⟨rfl, by omega⟩, if_neg (by omega)])
        · refine br_t (show (0 : Int) = 0 by decide) ?_
          show cw_C _ _ [vr x_reader_] (q_m m co hd fi se te re fa (x_P m i) (x_E m i) l dp cl sz) _
          refine Rt_number hm0 hX (fun (a9 : x_c m i = 50) (a10 : 0 ≤ x_v m i) => ⟨hm, ?_⟩) (fun (a9 : x_c m i ≠ 50) => ⟨hm, ?_⟩)
          · refine br_t (show m x_reader_ 4 = 0 by omega) ?_
            show cw_C _ _ [vr x_reader_, vr 14680076] (q_m m co hd fi se te re fa (x_P m i) (x_E m i) l dp cl sz) _
            refine Rt_word10 hm0 hX (fun (a11 : 15 ≤ x_c m i ∧ x_c m i ≤ 21) => ⟨hm, ?_⟩) (fun (a11 : ¬ (15 ≤ x_c m i ∧ x_c m i ≤ 21)) => ⟨hm, ?_⟩)
            · refine And.intro (fun (c12 : min 10000 (x_v m i) ≠ (-1)) => ?_) (fun (c12 : ¬ (min 10000 (x_v m i) ≠ (-1))) => ?_)
              · refine And.intro (fun (c13 : 1000 < min 10000 (x_v m i)) => ?_) (fun (c13 : ¬ (1000 < min 10000 (x_v m i))) => ?_)
                · show cw_C _ _ [vr x_reader_] (q_m m co hd fi se te re fa (x_P m i) (x_E m i) l dp cl sz) _
                  refine Re_fail hm0 ⟨(q_m_ok hm0), ?_⟩
                  refine And.intro (Or.inl rfl) ?_
                  show Q (some (vi 0)) (q_m m co hd fi se te re (x_P m i) (x_P m i) (x_E m i) l dp cl sz)
                  first
                    | (exfalso; omega)
                    | exact her _ _ _ _ _ _ _ (by rw [p_s0, if_pos (by omega), if_pos (by omega)])
                    | exact her _ _ _ _ _ _ _ (by rw [p_s0, if_neg (by omega), if_neg (by rw [show p_fw true = 15 from rfl, show p_la true = 21 from rfl]; omega)])
                    | exact her _ _ _ _ _ _ _ (by rw [p_s0, if_neg (by omega), if_pos (by rw [show p_fw true = 15 from rfl, show p_la true = 21 from rfl]; omega), if_pos (by omega)])
                    | exact her _ _ _ _ _ _ _ (by rw [p_s0, if_neg (by omega), if_pos (by rw [show p_fw true = 15 from rfl, show p_la true = 21 from rfl]; omega), if_neg (by omega), if_neg (by omega), if_pos ⟨rfl, by omega⟩, if_neg (by omega)])
                · refine And.intro (fun (c14 : l < 50) => ?_) (fun (c14 : ¬ (l < 50)) => ?_)
                  · refine And.intro (show -2147483648 ≤ l + 1 ∧ l + 1 < 2147483648 by omega) ?_
                    have hm15 : la_ok (cw_put (q_m m co hd fi se te re fa (x_P m i) (x_E m i) l dp cl sz) x_reader_ 7 (l + 1)) := la_put hm (by decide) (Or.inl rfl)
                    show cw_C _ _ [vr x_reader_] (cw_put (q_m m co hd fi se te re fa (x_P m i) (x_E m i) l dp cl sz) x_reader_ 7 (l + 1)) _
                    rw [q_m_fpa]
                    have hm16 : la_ok (q_m m co hd fi se te re fa (x_P m i) (x_E m i) (l + 1) dp cl sz) := q_m_ok hm0
                    refine Rt_advance hm0 hX (by omega) ⟨(q_m_ok hm0), ?_⟩
                    refine And.intro (fun (c17 : min 10000 (x_v m i) = (-1)) => ?_) (fun (c17 : ¬ (min 10000 (x_v m i) = (-1))) => ?_)
                    · refine br_f (show ¬ (m x_reader_ 4 ≠ 0) by omega) ?_
                      refine And.intro (fun (c18 : x_c m i - 15 < 5) => ?_) (fun (c18 : ¬ (x_c m i - 15 < 5)) => ?_)
                      · show cw_C _ _ [vr x_reader_text_, vi 2, vi (x_c m i - 15)] (q_m m co hd fi se te re fa (x_P m (i + 1)) (x_E m (i + 1)) (l + 1) dp cl sz) _
                        refine Te_emit hm0 (by omega) (by omega) (by omega) rfl ⟨(q_m_ok hm0), ?_⟩
                        refine And.intro (Or.inr rfl) ?_
                        show Q (some (vi 1)) (q_m m (cw_up co sz (16 * (x_c m i - 15) + 2)) hd fi se te re fa (x_P m (i + 1)) (x_E m (i + 1)) (l + 1) dp cl (sz + 1))
                        first
                          | (exfalso; omega)
                          | exact hok _ _ (fun _ => some (x_v m i)) _ _ (by rw [p_s0, if_neg (by omega), if_pos (by rw [show p_fw true = 15 from rfl, show p_la true = 21 from rfl]; omega), if_neg (by omega), if_pos (by omega)]) (e_g1 he0 (by omega) (by omega)) (e_num (by rw [cw_up_eq, show min 10000 (x_v m i) = x_v m i by omega]) (by omega))
                          | exact hok _ _ (fun E => some (E (p_wn true (x_c m i) 0))) _ _ (by rw [p_s0, if_neg (by omega), if_pos (by rw [show p_fw true = 15 from rfl, show p_la true = 21 from rfl]; omega), if_neg (by omega), if_neg (by omega), if_neg (fun q => by have := q.2; omega)]) (e_g1 he0 (by omega) (by omega)) (e_wrd (by rw [cw_up_eq, p_wn0 (by omega)]) (by rw [p_wn0 (by omega)]; omega) (by omega))
                          | (rw [show i + 1 + 1 = i + 2 by omega]; exact hok _ _ (fun E => some (E (p_wn true (x_c m i) (x_v m (i + 1))))) _ _ (by rw [p_s0, if_neg (by omega), if_pos (by rw [show p_fw true = 15 from rfl, show p_la true = 21 from rfl]; omega), if_neg (by omega), if_neg (by omega), if_pos ⟨rfl, by omega⟩, if_pos (by omega)]) (e_g1 he0 (by omega) (by omega)) (e_wrd (by rw [cw_up_eq, p_wn20 (by omega), show min 10000 (x_v m (i + 1)) = x_v m (i + 1) by omega]) (by rw [p_wn20 (by omega)]; omega) (by omega)))
                          | (rw [show i + 1 + 1 = i + 2 by omega]; exact hok _ _ (fun E => some (E (p_wn true (x_c m i) (x_v m (i + 1))))) _ _ (by rw [p_s0, if_neg (by omega), if_pos (by rw [show p_fw true = 15 from rfl, show p_la true = 21 from rfl]; omega), if_neg (by omega), if_neg (by omega), if_pos ⟨rfl, by omega⟩, if_pos (by omega)]) (e_g1 he0 (by omega) (by omega)) (e_wrd (by rw [cw_up_eq, p_wn21 (by omega), show min 10000 (x_v m (i + 1)) = x_v m (i + 1) by omega]) (by rw [p_wn21 (by omega)]; omega) (by omega)))
                      · show cw_C _ _ [vr x_reader_] (q_m m co hd fi se te re fa (x_P m (i + 1)) (x_E m (i + 1)) (l + 1) dp cl sz) _
                        refine Rt_number hm0 hX (fun (a19 : x_c m (i + 1) = 50) (a20 : 0 ≤ x_v m (i + 1)) => ⟨(q_m_ok hm0), ?_⟩) (fun (a19 : x_c m (i + 1) ≠ 50) => ⟨(q_m_ok hm0), ?_⟩)
                        · show cw_C _ _ [vi (min 10000 (x_v m (i + 1))), vi 6] (q_m m co hd fi se te re fa (x_P m (i + 1)) (x_E m (i + 1)) (l + 1) dp cl sz) _
                          refine C_isBelow (fun (a21 : 0 ≤ min 10000 (x_v m (i + 1))) (a22 : min 10000 (x_v m (i + 1)) < 6) => ⟨(q_m_ok hm0), ?_⟩) (fun (a23 : ¬ (0 ≤ min 10000 (x_v m (i + 1)) ∧ min 10000 (x_v m (i + 1)) < 6)) => ⟨(q_m_ok hm0), ?_⟩)
                          · refine br_t (show (1 : Int) ≠ 0 by decide) ?_
                            show cw_C _ _ [vr x_reader_] (q_m m co hd fi se te re fa (x_P m (i + 1)) (x_E m (i + 1)) (l + 1) dp cl sz) _
                            refine Rt_advance hm0 hX (by omega) ⟨(q_m_ok hm0), ?_⟩
                            refine And.intro (fun (c24 : x_c m i - 15 ≠ 5) => ?_) (fun (c24 : ¬ (x_c m i - 15 ≠ 5)) => ?_)
                            · refine And.intro (show -2147483648 ≤ 11 + (min 10000 (x_v m (i + 1))) ∧ 11 + (min 10000 (x_v m (i + 1))) < 2147483648 by omega) ?_
                              show cw_C _ _ [vr x_reader_text_, vi 2, vi (11 + (min 10000 (x_v m (i + 1))))] (q_m m co hd fi se te re fa (x_P m (i + 1 + 1)) (x_E m (i + 1 + 1)) (l + 1) dp cl sz) _
                              refine Te_emit hm0 (by omega) (by omega) (by omega) rfl ⟨(q_m_ok hm0), ?_⟩
                              refine And.intro (Or.inr rfl) ?_
                              show Q (some (vi 1)) (q_m m (cw_up co sz (16 * (11 + (min 10000 (x_v m (i + 1)))) + 2)) hd fi se te re fa (x_P m (i + 1 + 1)) (x_E m (i + 1 + 1)) (l + 1) dp cl (sz + 1))
                              first
                                | (exfalso; omega)
                                | exact hok _ _ (fun _ => some (x_v m i)) _ _ (by rw [p_s0, if_neg (by omega), if_pos (by rw [show p_fw true = 15 from rfl, show p_la true = 21 from rfl]; omega), if_neg (by omega), if_pos (by omega)]) (e_g1 he0 (by omega) (by omega)) (e_num (by rw [cw_up_eq, show min 10000 (x_v m i) = x_v m i by omega]) (by omega))
                                | exact hok _ _ (fun E => some (E (p_wn true (x_c m i) 0))) _ _ (by rw [p_s0, if_neg (by omega), if_pos (by rw [show p_fw true = 15 from rfl, show p_la true = 21 from rfl]; omega), if_neg (by omega), if_neg (by omega), if_neg (fun q => by have := q.2; omega)]) (e_g1 he0 (by omega) (by omega)) (e_wrd (by rw [cw_up_eq, p_wn0 (by omega)]) (by rw [p_wn0 (by omega)]; omega) (by omega))
                                | (rw [show i + 1 + 1 = i + 2 by omega]; exact hok _ _ (fun E => some (E (p_wn true (x_c m i) (x_v m (i + 1))))) _ _ (by rw [p_s0, if_neg (by omega), if_pos (by rw [show p_fw true = 15 from rfl, show p_la true = 21 from rfl]; omega), if_neg (by omega), if_neg (by omega), if_pos ⟨rfl, by omega⟩, if_pos (by omega)]) (e_g1 he0 (by omega) (by omega)) (e_wrd (by rw [cw_up_eq, p_wn20 (by omega), show min 10000 (x_v m (i + 1)) = x_v m (i + 1) by omega]) (by rw [p_wn20 (by omega)]; omega) (by omega)))
                                | (rw [show i + 1 + 1 = i + 2 by omega]; exact hok _ _ (fun E => some (E (p_wn true (x_c m i) (x_v m (i + 1))))) _ _ (by rw [p_s0, if_neg (by omega), if_pos (by rw [show p_fw true = 15 from rfl, show p_la true = 21 from rfl]; omega), if_neg (by omega), if_neg (by omega), if_pos ⟨rfl, by omega⟩, if_pos (by omega)]) (e_g1 he0 (by omega) (by omega)) (e_wrd (by rw [cw_up_eq, p_wn21 (by omega), show min 10000 (x_v m (i + 1)) = x_v m (i + 1) by omega]) (by rw [p_wn21 (by omega)]; omega) (by omega)))
                            · refine And.intro (show -2147483648 ≤ 5 + (min 10000 (x_v m (i + 1))) ∧ 5 + (min 10000 (x_v m (i + 1))) < 2147483648 by omega) ?_
                              show cw_C _ _ [vr x_reader_text_, vi 2, vi (5 + (min 10000 (x_v m (i + 1))))] (q_m m co hd fi se te re fa (x_P m (i + 1 + 1)) (x_E m (i + 1 + 1)) (l + 1) dp cl sz) _
                              refine Te_emit hm0 (by omega) (by omega) (by omega) rfl ⟨(q_m_ok hm0), ?_⟩
                              refine And.intro (Or.inr rfl) ?_
                              show Q (some (vi 1)) (q_m m (cw_up co sz (16 * (5 + (min 10000 (x_v m (i + 1)))) + 2)) hd fi se te re fa (x_P m (i + 1 + 1)) (x_E m (i + 1 + 1)) (l + 1) dp cl (sz + 1))
                              first
                                | (exfalso; omega)
                                | exact hok _ _ (fun _ => some (x_v m i)) _ _ (by rw [p_s0, if_neg (by omega), if_pos (by rw [show p_fw true = 15 from rfl, show p_la true = 21 from rfl]; omega), if_neg (by omega), if_pos (by omega)]) (e_g1 he0 (by omega) (by omega)) (e_num (by rw [cw_up_eq, show min 10000 (x_v m i) = x_v m i by omega]) (by omega))
                                | exact hok _ _ (fun E => some (E (p_wn true (x_c m i) 0))) _ _ (by rw [p_s0, if_neg (by omega), if_pos (by rw [show p_fw true = 15 from rfl, show p_la true = 21 from rfl]; omega), if_neg (by omega), if_neg (by omega), if_neg (fun q => by have := q.2; omega)]) (e_g1 he0 (by omega) (by omega)) (e_wrd (by rw [cw_up_eq, p_wn0 (by omega)]) (by rw [p_wn0 (by omega)]; omega) (by omega))
                                | (rw [show i + 1 + 1 = i + 2 by omega]; exact hok _ _ (fun E => some (E (p_wn true (x_c m i) (x_v m (i + 1))))) _ _ (by rw [p_s0, if_neg (by omega), if_pos (by rw [show p_fw true = 15 from rfl, show p_la true = 21 from rfl]; omega), if_neg (by omega), if_neg (by omega), if_pos ⟨rfl, by omega⟩, if_pos (by omega)]) (e_g1 he0 (by omega) (by omega)) (e_wrd (by rw [cw_up_eq, p_wn20 (by omega), show min 10000 (x_v m (i + 1)) = x_v m (i + 1) by omega]) (by rw [p_wn20 (by omega)]; omega) (by omega)))
                                | (rw [show i + 1 + 1 = i + 2 by omega]; exact hok _ _ (fun E => some (E (p_wn true (x_c m i) (x_v m (i + 1))))) _ _ (by rw [p_s0, if_neg (by omega), if_pos (by rw [show p_fw true = 15 from rfl, show p_la true = 21 from rfl]; omega), if_neg (by omega), if_neg (by omega), if_pos ⟨rfl, by omega⟩, if_pos (by omega)]) (e_g1 he0 (by omega) (by omega)) (e_wrd (by rw [cw_up_eq, p_wn21 (by omega), show min 10000 (x_v m (i + 1)) = x_v m (i + 1) by omega]) (by rw [p_wn21 (by omega)]; omega) (by omega)))
                          · refine br_f (show ¬ ((0 : Int) ≠ 0) by decide) ?_
                            show cw_C _ _ [vr x_reader_] (q_m m co hd fi se te re fa (x_P m (i + 1)) (x_E m (i + 1)) (l + 1) dp cl sz) _
                            refine Re_fail hm0 ⟨(q_m_ok hm0), ?_⟩
                            refine And.intro (Or.inl rfl) ?_
                            show Q (some (vi 0)) (q_m m co hd fi se te re (x_P m (i + 1)) (x_P m (i + 1)) (x_E m (i + 1)) (l + 1) dp cl sz)
                            first
                              | (exfalso; omega)
                              | exact her _ _ _ _ _ _ _ (by rw [p_s0, if_pos (by omega), if_pos (by omega)])
                              | exact her _ _ _ _ _ _ _ (by rw [p_s0, if_neg (by omega), if_neg (by rw [show p_fw true = 15 from rfl, show p_la true = 21 from rfl]; omega)])
                              | exact her _ _ _ _ _ _ _ (by rw [p_s0, if_neg (by omega), if_pos (by rw [show p_fw true = 15 from rfl, show p_la true = 21 from rfl]; omega), if_pos (by omega)])
                              | exact her _ _ _ _ _ _ _ (by rw [p_s0, if_neg (by omega), if_pos (by rw [show p_fw true = 15 from rfl, show p_la true = 21 from rfl]; omega), if_neg (by omega), if_neg (by omega), if_pos ⟨rfl, by omega⟩, if_neg (by omega)])
                        · show cw_C _ _ [vi (-1), vi 6] (q_m m co hd fi se te re fa (x_P m (i + 1)) (x_E m (i + 1)) (l + 1) dp cl sz) _
                          refine C_isBelow (fun (a25 : 0 ≤ (-1)) (a26 : (-1) < 6) => ⟨(q_m_ok hm0), ?_⟩) (fun (a27 : ¬ (0 ≤ (-1) ∧ (-1) < 6)) => ⟨(q_m_ok hm0), ?_⟩)
                          · refine br_t (show (1 : Int) ≠ 0 by decide) ?_
                            show cw_C _ _ [vr x_reader_] (q_m m co hd fi se te re fa (x_P m (i + 1)) (x_E m (i + 1)) (l + 1) dp cl sz) _
                            refine Rt_advance hm0 hX (by omega) ⟨(q_m_ok hm0), ?_⟩
                            refine And.intro (fun (c28 : x_c m i - 15 ≠ 5) => ?_) (fun (c28 : ¬ (x_c m i - 15 ≠ 5)) => ?_)
                            · refine And.intro (show -2147483648 ≤ 10 ∧ 10 < 2147483648 by omega) ?_
                              show cw_C _ _ [vr x_reader_text_, vi 2, vi 10] (q_m m co hd fi se te re fa (x_P m (i + 1 + 1)) (x_E m (i + 1 + 1)) (l + 1) dp cl sz) _
                              refine Te_emit hm0 (by omega) (by omega) (by omega) rfl ⟨(q_m_ok hm0), ?_⟩
                              refine And.intro (Or.inr rfl) ?_
                              show Q (some (vi 1)) (q_m m (cw_up co sz (162)) hd fi se te re fa (x_P m (i + 1 + 1)) (x_E m (i + 1 + 1)) (l + 1) dp cl (sz + 1))
                              first
                                | (exfalso; omega)
                                | exact hok _ _ (fun _ => some (x_v m i)) _ _ (by rw [p_s0, if_neg (by omega), if_pos (by rw [show p_fw true = 15 from rfl, show p_la true = 21 from rfl]; omega), if_neg (by omega), if_pos (by omega)]) (e_g1 he0 (by omega) (by omega)) (e_num (by rw [cw_up_eq, show min 10000 (x_v m i) = x_v m i by omega]) (by omega))
                                | exact hok _ _ (fun E => some (E (p_wn true (x_c m i) 0))) _ _ (by rw [p_s0, if_neg (by omega), if_pos (by rw [show p_fw true = 15 from rfl, show p_la true = 21 from rfl]; omega), if_neg (by omega), if_neg (by omega), if_neg (fun q => by have := q.2; omega)]) (e_g1 he0 (by omega) (by omega)) (e_wrd (by rw [cw_up_eq, p_wn0 (by omega)]) (by rw [p_wn0 (by omega)]; omega) (by omega))
                                | (rw [show i + 1 + 1 = i + 2 by omega]; exact hok _ _ (fun E => some (E (p_wn true (x_c m i) (x_v m (i + 1))))) _ _ (by rw [p_s0, if_neg (by omega), if_pos (by rw [show p_fw true = 15 from rfl, show p_la true = 21 from rfl]; omega), if_neg (by omega), if_neg (by omega), if_pos ⟨rfl, by omega⟩, if_pos (by omega)]) (e_g1 he0 (by omega) (by omega)) (e_wrd (by rw [cw_up_eq, p_wn20 (by omega), show min 10000 (x_v m (i + 1)) = x_v m (i + 1) by omega]) (by rw [p_wn20 (by omega)]; omega) (by omega)))
                                | (rw [show i + 1 + 1 = i + 2 by omega]; exact hok _ _ (fun E => some (E (p_wn true (x_c m i) (x_v m (i + 1))))) _ _ (by rw [p_s0, if_neg (by omega), if_pos (by rw [show p_fw true = 15 from rfl, show p_la true = 21 from rfl]; omega), if_neg (by omega), if_neg (by omega), if_pos ⟨rfl, by omega⟩, if_pos (by omega)]) (e_g1 he0 (by omega) (by omega)) (e_wrd (by rw [cw_up_eq, p_wn21 (by omega), show min 10000 (x_v m (i + 1)) = x_v m (i + 1) by omega]) (by rw [p_wn21 (by omega)]; omega) (by omega)))
                            · refine And.intro (show -2147483648 ≤ 4 ∧ 4 < 2147483648 by omega) ?_
                              show cw_C _ _ [vr x_reader_text_, vi 2, vi 4] (q_m m co hd fi se te re fa (x_P m (i + 1 + 1)) (x_E m (i + 1 + 1)) (l + 1) dp cl sz) _
                              refine Te_emit hm0 (by omega) (by omega) (by omega) rfl ⟨(q_m_ok hm0), ?_⟩
                              refine And.intro (Or.inr rfl) ?_
                              show Q (some (vi 1)) (q_m m (cw_up co sz (66)) hd fi se te re fa (x_P m (i + 1 + 1)) (x_E m (i + 1 + 1)) (l + 1) dp cl (sz + 1))
                              first
                                | (exfalso; omega)
                                | exact hok _ _ (fun _ => some (x_v m i)) _ _ (by rw [p_s0, if_neg (by omega), if_pos (by rw [show p_fw true = 15 from rfl, show p_la true = 21 from rfl]; omega), if_neg (by omega), if_pos (by omega)]) (e_g1 he0 (by omega) (by omega)) (e_num (by rw [cw_up_eq, show min 10000 (x_v m i) = x_v m i by omega]) (by omega))
                                | exact hok _ _ (fun E => some (E (p_wn true (x_c m i) 0))) _ _ (by rw [p_s0, if_neg (by omega), if_pos (by rw [show p_fw true = 15 from rfl, show p_la true = 21 from rfl]; omega), if_neg (by omega), if_neg (by omega), if_neg (fun q => by have := q.2; omega)]) (e_g1 he0 (by omega) (by omega)) (e_wrd (by rw [cw_up_eq, p_wn0 (by omega)]) (by rw [p_wn0 (by omega)]; omega) (by omega))
                                | (rw [show i + 1 + 1 = i + 2 by omega]; exact hok _ _ (fun E => some (E (p_wn true (x_c m i) (x_v m (i + 1))))) _ _ (by rw [p_s0, if_neg (by omega), if_pos (by rw [show p_fw true = 15 from rfl, show p_la true = 21 from rfl]; omega), if_neg (by omega), if_neg (by omega), if_pos ⟨rfl, by omega⟩, if_pos (by omega)]) (e_g1 he0 (by omega) (by omega)) (e_wrd (by rw [cw_up_eq, p_wn20 (by omega), show min 10000 (x_v m (i + 1)) = x_v m (i + 1) by omega]) (by rw [p_wn20 (by omega)]; omega) (by omega)))
                                | (rw [show i + 1 + 1 = i + 2 by omega]; exact hok _ _ (fun E => some (E (p_wn true (x_c m i) (x_v m (i + 1))))) _ _ (by rw [p_s0, if_neg (by omega), if_pos (by rw [show p_fw true = 15 from rfl, show p_la true = 21 from rfl]; omega), if_neg (by omega), if_neg (by omega), if_pos ⟨rfl, by omega⟩, if_pos (by omega)]) (e_g1 he0 (by omega) (by omega)) (e_wrd (by rw [cw_up_eq, p_wn21 (by omega), show min 10000 (x_v m (i + 1)) = x_v m (i + 1) by omega]) (by rw [p_wn21 (by omega)]; omega) (by omega)))
                          · refine br_f (show ¬ ((0 : Int) ≠ 0) by decide) ?_
                            show cw_C _ _ [vr x_reader_] (q_m m co hd fi se te re fa (x_P m (i + 1)) (x_E m (i + 1)) (l + 1) dp cl sz) _
                            refine Re_fail hm0 ⟨(q_m_ok hm0), ?_⟩
                            refine And.intro (Or.inl rfl) ?_
                            show Q (some (vi 0)) (q_m m co hd fi se te re (x_P m (i + 1)) (x_P m (i + 1)) (x_E m (i + 1)) (l + 1) dp cl sz)
                            first
                              | (exfalso; omega)
                              | exact her _ _ _ _ _ _ _ (by rw [p_s0, if_pos (by omega), if_pos (by omega)])
                              | exact her _ _ _ _ _ _ _ (by rw [p_s0, if_neg (by omega), if_neg (by rw [show p_fw true = 15 from rfl, show p_la true = 21 from rfl]; omega)])
                              | exact her _ _ _ _ _ _ _ (by rw [p_s0, if_neg (by omega), if_pos (by rw [show p_fw true = 15 from rfl, show p_la true = 21 from rfl]; omega), if_pos (by omega)])
                              | exact her _ _ _ _ _ _ _ (by rw [p_s0, if_neg (by omega), if_pos (by rw [show p_fw true = 15 from rfl, show p_la true = 21 from rfl]; omega), if_neg (by omega), if_neg (by omega), if_pos ⟨rfl, by omega⟩, if_neg (by omega)])
                    · show cw_C _ _ [vr x_reader_text_, vi 1, vi (min 10000 (x_v m i))] (q_m m co hd fi se te re fa (x_P m (i + 1)) (x_E m (i + 1)) (l + 1) dp cl sz) _
                      refine Te_emit hm0 (by omega) (by omega) (by omega) rfl ⟨(q_m_ok hm0), ?_⟩
                      refine And.intro (Or.inr rfl) ?_
                      show Q (some (vi 1)) (q_m m (cw_up co sz (16 * (min 10000 (x_v m i)) + 1)) hd fi se te re fa (x_P m (i + 1)) (x_E m (i + 1)) (l + 1) dp cl (sz + 1))
                      first
                        | (exfalso; omega)
                        | exact hok _ _ (fun _ => some (x_v m i)) _ _ (by rw [p_s0, if_neg (by omega), if_pos (by rw [show p_fw true = 15 from rfl, show p_la true = 21 from rfl]; omega), if_neg (by omega), if_pos (by omega)]) (e_g1 he0 (by omega) (by omega)) (e_num (by rw [cw_up_eq, show min 10000 (x_v m i) = x_v m i by omega]) (by omega))
                        | exact hok _ _ (fun E => some (E (p_wn true (x_c m i) 0))) _ _ (by rw [p_s0, if_neg (by omega), if_pos (by rw [show p_fw true = 15 from rfl, show p_la true = 21 from rfl]; omega), if_neg (by omega), if_neg (by omega), if_neg (fun q => by have := q.2; omega)]) (e_g1 he0 (by omega) (by omega)) (e_wrd (by rw [cw_up_eq, p_wn0 (by omega)]) (by rw [p_wn0 (by omega)]; omega) (by omega))
                        | (rw [show i + 1 + 1 = i + 2 by omega]; exact hok _ _ (fun E => some (E (p_wn true (x_c m i) (x_v m (i + 1))))) _ _ (by rw [p_s0, if_neg (by omega), if_pos (by rw [show p_fw true = 15 from rfl, show p_la true = 21 from rfl]; omega), if_neg (by omega), if_neg (by omega), if_pos ⟨rfl, by omega⟩, if_pos (by omega)]) (e_g1 he0 (by omega) (by omega)) (e_wrd (by rw [cw_up_eq, p_wn20 (by omega), show min 10000 (x_v m (i + 1)) = x_v m (i + 1) by omega]) (by rw [p_wn20 (by omega)]; omega) (by omega)))
                        | (rw [show i + 1 + 1 = i + 2 by omega]; exact hok _ _ (fun E => some (E (p_wn true (x_c m i) (x_v m (i + 1))))) _ _ (by rw [p_s0, if_neg (by omega), if_pos (by rw [show p_fw true = 15 from rfl, show p_la true = 21 from rfl]; omega), if_neg (by omega), if_neg (by omega), if_pos ⟨rfl, by omega⟩, if_pos (by omega)]) (e_g1 he0 (by omega) (by omega)) (e_wrd (by rw [cw_up_eq, p_wn21 (by omega), show min 10000 (x_v m (i + 1)) = x_v m (i + 1) by omega]) (by rw [p_wn21 (by omega)]; omega) (by omega)))
                  · show cw_C _ _ [vr x_reader_] (q_m m co hd fi se te re fa (x_P m i) (x_E m i) l dp cl sz) _
                    refine Re_fail hm0 ⟨(q_m_ok hm0), ?_⟩
                    refine And.intro (Or.inl rfl) ?_
                    show Q (some (vi 0)) (q_m m co hd fi se te re (x_P m i) (x_P m i) (x_E m i) l dp cl sz)
                    first
                      | (exfalso; omega)
                      | exact her _ _ _ _ _ _ _ (by rw [p_s0, if_pos (by omega), if_pos (by omega)])
                      | exact her _ _ _ _ _ _ _ (by rw [p_s0, if_neg (by omega), if_neg (by rw [show p_fw true = 15 from rfl, show p_la true = 21 from rfl]; omega)])
                      | exact her _ _ _ _ _ _ _ (by rw [p_s0, if_neg (by omega), if_pos (by rw [show p_fw true = 15 from rfl, show p_la true = 21 from rfl]; omega), if_pos (by omega)])
                      | exact her _ _ _ _ _ _ _ (by rw [p_s0, if_neg (by omega), if_pos (by rw [show p_fw true = 15 from rfl, show p_la true = 21 from rfl]; omega), if_neg (by omega), if_neg (by omega), if_pos ⟨rfl, by omega⟩, if_neg (by omega)])
              · refine And.intro (fun (c29 : x_c m i - 15 = (-1)) => ?_) (fun (c29 : ¬ (x_c m i - 15 = (-1))) => ?_)
                · show cw_C _ _ [vr x_reader_] (q_m m co hd fi se te re fa (x_P m i) (x_E m i) l dp cl sz) _
                  refine Re_fail hm0 ⟨(q_m_ok hm0), ?_⟩
                  refine And.intro (Or.inl rfl) ?_
                  show Q (some (vi 0)) (q_m m co hd fi se te re (x_P m i) (x_P m i) (x_E m i) l dp cl sz)
                  first
                    | (exfalso; omega)
                    | exact her _ _ _ _ _ _ _ (by rw [p_s0, if_pos (by omega), if_pos (by omega)])
                    | exact her _ _ _ _ _ _ _ (by rw [p_s0, if_neg (by omega), if_neg (by rw [show p_fw true = 15 from rfl, show p_la true = 21 from rfl]; omega)])
                    | exact her _ _ _ _ _ _ _ (by rw [p_s0, if_neg (by omega), if_pos (by rw [show p_fw true = 15 from rfl, show p_la true = 21 from rfl]; omega), if_pos (by omega)])
                    | exact her _ _ _ _ _ _ _ (by rw [p_s0, if_neg (by omega), if_pos (by rw [show p_fw true = 15 from rfl, show p_la true = 21 from rfl]; omega), if_neg (by omega), if_neg (by omega), if_pos ⟨rfl, by omega⟩, if_neg (by omega)])
                · refine And.intro (fun (c30 : 1000 < min 10000 (x_v m i)) => ?_) (fun (c30 : ¬ (1000 < min 10000 (x_v m i))) => ?_)
                  · show cw_C _ _ [vr x_reader_] (q_m m co hd fi se te re fa (x_P m i) (x_E m i) l dp cl sz) _
                    refine Re_fail hm0 ⟨(q_m_ok hm0), ?_⟩
                    refine And.intro (Or.inl rfl) ?_
                    show Q (some (vi 0)) (q_m m co hd fi se te re (x_P m i) (x_P m i) (x_E m i) l dp cl sz)
                    first
                      | (exfalso; omega)
                      | exact her _ _ _ _ _ _ _ (by rw [p_s0, if_pos (by omega), if_pos (by omega)])
                      | exact her _ _ _ _ _ _ _ (by rw [p_s0, if_neg (by omega), if_neg (by rw [show p_fw true = 15 from rfl, show p_la true = 21 from rfl]; omega)])
                      | exact her _ _ _ _ _ _ _ (by rw [p_s0, if_neg (by omega), if_pos (by rw [show p_fw true = 15 from rfl, show p_la true = 21 from rfl]; omega), if_pos (by omega)])
                      | exact her _ _ _ _ _ _ _ (by rw [p_s0, if_neg (by omega), if_pos (by rw [show p_fw true = 15 from rfl, show p_la true = 21 from rfl]; omega), if_neg (by omega), if_neg (by omega), if_pos ⟨rfl, by omega⟩, if_neg (by omega)])
                  · refine And.intro (fun (c31 : l < 50) => ?_) (fun (c31 : ¬ (l < 50)) => ?_)
                    · refine And.intro (show -2147483648 ≤ l + 1 ∧ l + 1 < 2147483648 by omega) ?_
                      have hm32 : la_ok (cw_put (q_m m co hd fi se te re fa (x_P m i) (x_E m i) l dp cl sz) x_reader_ 7 (l + 1)) := la_put hm (by decide) (Or.inl rfl)
                      show cw_C _ _ [vr x_reader_] (cw_put (q_m m co hd fi se te re fa (x_P m i) (x_E m i) l dp cl sz) x_reader_ 7 (l + 1)) _
                      rw [q_m_fpa]
                      have hm33 : la_ok (q_m m co hd fi se te re fa (x_P m i) (x_E m i) (l + 1) dp cl sz) := q_m_ok hm0
                      refine Rt_advance hm0 hX (by omega) ⟨(q_m_ok hm0), ?_⟩
                      refine And.intro (fun (c34 : min 10000 (x_v m i) = (-1)) => ?_) (fun (c34 : ¬ (min 10000 (x_v m i) = (-1))) => ?_)
                      · refine br_f (show ¬ (m x_reader_ 4 ≠ 0) by omega) ?_
                        refine And.intro (fun (c35 : x_c m i - 15 < 5) => ?_) (fun (c35 : ¬ (x_c m i - 15 < 5)) => ?_)
                        · show cw_C _ _ [vr x_reader_text_, vi 2, vi (x_c m i - 15)] (q_m m co hd fi se te re fa (x_P m (i + 1)) (x_E m (i + 1)) (l + 1) dp cl sz) _
                          refine Te_emit hm0 (by omega) (by omega) (by omega) rfl ⟨(q_m_ok hm0), ?_⟩
                          refine And.intro (Or.inr rfl) ?_
                          show Q (some (vi 1)) (q_m m (cw_up co sz (16 * (x_c m i - 15) + 2)) hd fi se te re fa (x_P m (i + 1)) (x_E m (i + 1)) (l + 1) dp cl (sz + 1))
                          first
                            | (exfalso; omega)
                            | exact hok _ _ (fun _ => some (x_v m i)) _ _ (by rw [p_s0, if_neg (by omega), if_pos (by rw [show p_fw true = 15 from rfl, show p_la true = 21 from rfl]; omega), if_neg (by omega), if_pos (by omega)]) (e_g1 he0 (by omega) (by omega)) (e_num (by rw [cw_up_eq, show min 10000 (x_v m i) = x_v m i by omega]) (by omega))
                            | exact hok _ _ (fun E => some (E (p_wn true (x_c m i) 0))) _ _ (by rw [p_s0, if_neg (by omega), if_pos (by rw [show p_fw true = 15 from rfl, show p_la true = 21 from rfl]; omega), if_neg (by omega), if_neg (by omega), if_neg (fun q => by have := q.2; omega)]) (e_g1 he0 (by omega) (by omega)) (e_wrd (by rw [cw_up_eq, p_wn0 (by omega)]) (by rw [p_wn0 (by omega)]; omega) (by omega))
                            | (rw [show i + 1 + 1 = i + 2 by omega]; exact hok _ _ (fun E => some (E (p_wn true (x_c m i) (x_v m (i + 1))))) _ _ (by rw [p_s0, if_neg (by omega), if_pos (by rw [show p_fw true = 15 from rfl, show p_la true = 21 from rfl]; omega), if_neg (by omega), if_neg (by omega), if_pos ⟨rfl, by omega⟩, if_pos (by omega)]) (e_g1 he0 (by omega) (by omega)) (e_wrd (by rw [cw_up_eq, p_wn20 (by omega), show min 10000 (x_v m (i + 1)) = x_v m (i + 1) by omega]) (by rw [p_wn20 (by omega)]; omega) (by omega)))
                            | (rw [show i + 1 + 1 = i + 2 by omega]; exact hok _ _ (fun E => some (E (p_wn true (x_c m i) (x_v m (i + 1))))) _ _ (by rw [p_s0, if_neg (by omega), if_pos (by rw [show p_fw true = 15 from rfl, show p_la true = 21 from rfl]; omega), if_neg (by omega), if_neg (by omega), if_pos ⟨rfl, by omega⟩, if_pos (by omega)]) (e_g1 he0 (by omega) (by omega)) (e_wrd (by rw [cw_up_eq, p_wn21 (by omega), show min 10000 (x_v m (i + 1)) = x_v m (i + 1) by omega]) (by rw [p_wn21 (by omega)]; omega) (by omega)))
                        · show cw_C _ _ [vr x_reader_] (q_m m co hd fi se te re fa (x_P m (i + 1)) (x_E m (i + 1)) (l + 1) dp cl sz) _
                          refine Rt_number hm0 hX (fun (a36 : x_c m (i + 1) = 50) (a37 : 0 ≤ x_v m (i + 1)) => ⟨(q_m_ok hm0), ?_⟩) (fun (a36 : x_c m (i + 1) ≠ 50) => ⟨(q_m_ok hm0), ?_⟩)
                          · show cw_C _ _ [vi (min 10000 (x_v m (i + 1))), vi 6] (q_m m co hd fi se te re fa (x_P m (i + 1)) (x_E m (i + 1)) (l + 1) dp cl sz) _
                            refine C_isBelow (fun (a38 : 0 ≤ min 10000 (x_v m (i + 1))) (a39 : min 10000 (x_v m (i + 1)) < 6) => ⟨(q_m_ok hm0), ?_⟩) (fun (a40 : ¬ (0 ≤ min 10000 (x_v m (i + 1)) ∧ min 10000 (x_v m (i + 1)) < 6)) => ⟨(q_m_ok hm0), ?_⟩)
                            · refine br_t (show (1 : Int) ≠ 0 by decide) ?_
                              show cw_C _ _ [vr x_reader_] (q_m m co hd fi se te re fa (x_P m (i + 1)) (x_E m (i + 1)) (l + 1) dp cl sz) _
                              refine Rt_advance hm0 hX (by omega) ⟨(q_m_ok hm0), ?_⟩
                              refine And.intro (fun (c41 : x_c m i - 15 ≠ 5) => ?_) (fun (c41 : ¬ (x_c m i - 15 ≠ 5)) => ?_)
                              · refine And.intro (show -2147483648 ≤ 11 + (min 10000 (x_v m (i + 1))) ∧ 11 + (min 10000 (x_v m (i + 1))) < 2147483648 by omega) ?_
                                show cw_C _ _ [vr x_reader_text_, vi 2, vi (11 + (min 10000 (x_v m (i + 1))))] (q_m m co hd fi se te re fa (x_P m (i + 1 + 1)) (x_E m (i + 1 + 1)) (l + 1) dp cl sz) _
                                refine Te_emit hm0 (by omega) (by omega) (by omega) rfl ⟨(q_m_ok hm0), ?_⟩
                                refine And.intro (Or.inr rfl) ?_
                                show Q (some (vi 1)) (q_m m (cw_up co sz (16 * (11 + (min 10000 (x_v m (i + 1)))) + 2)) hd fi se te re fa (x_P m (i + 1 + 1)) (x_E m (i + 1 + 1)) (l + 1) dp cl (sz + 1))
                                first
                                  | (exfalso; omega)
                                  | exact hok _ _ (fun _ => some (x_v m i)) _ _ (by rw [p_s0, if_neg (by omega), if_pos (by rw [show p_fw true = 15 from rfl, show p_la true = 21 from rfl]; omega), if_neg (by omega), if_pos (by omega)]) (e_g1 he0 (by omega) (by omega)) (e_num (by rw [cw_up_eq, show min 10000 (x_v m i) = x_v m i by omega]) (by omega))
                                  | exact hok _ _ (fun E => some (E (p_wn true (x_c m i) 0))) _ _ (by rw [p_s0, if_neg (by omega), if_pos (by rw [show p_fw true = 15 from rfl, show p_la true = 21 from rfl]; omega), if_neg (by omega), if_neg (by omega), if_neg (fun q => by have := q.2; omega)]) (e_g1 he0 (by omega) (by omega)) (e_wrd (by rw [cw_up_eq, p_wn0 (by omega)]) (by rw [p_wn0 (by omega)]; omega) (by omega))
                                  | (rw [show i + 1 + 1 = i + 2 by omega]; exact hok _ _ (fun E => some (E (p_wn true (x_c m i) (x_v m (i + 1))))) _ _ (by rw [p_s0, if_neg (by omega), if_pos (by rw [show p_fw true = 15 from rfl, show p_la true = 21 from rfl]; omega), if_neg (by omega), if_neg (by omega), if_pos ⟨rfl, by omega⟩, if_pos (by omega)]) (e_g1 he0 (by omega) (by omega)) (e_wrd (by rw [cw_up_eq, p_wn20 (by omega), show min 10000 (x_v m (i + 1)) = x_v m (i + 1) by omega]) (by rw [p_wn20 (by omega)]; omega) (by omega)))
                                  | (rw [show i + 1 + 1 = i + 2 by omega]; exact hok _ _ (fun E => some (E (p_wn true (x_c m i) (x_v m (i + 1))))) _ _ (by rw [p_s0, if_neg (by omega), if_pos (by rw [show p_fw true = 15 from rfl, show p_la true = 21 from rfl]; omega), if_neg (by omega), if_neg (by omega), if_pos ⟨rfl, by omega⟩, if_pos (by omega)]) (e_g1 he0 (by omega) (by omega)) (e_wrd (by rw [cw_up_eq, p_wn21 (by omega), show min 10000 (x_v m (i + 1)) = x_v m (i + 1) by omega]) (by rw [p_wn21 (by omega)]; omega) (by omega)))
                              · refine And.intro (show -2147483648 ≤ 5 + (min 10000 (x_v m (i + 1))) ∧ 5 + (min 10000 (x_v m (i + 1))) < 2147483648 by omega) ?_
                                show cw_C _ _ [vr x_reader_text_, vi 2, vi (5 + (min 10000 (x_v m (i + 1))))] (q_m m co hd fi se te re fa (x_P m (i + 1 + 1)) (x_E m (i + 1 + 1)) (l + 1) dp cl sz) _
                                refine Te_emit hm0 (by omega) (by omega) (by omega) rfl ⟨(q_m_ok hm0), ?_⟩
                                refine And.intro (Or.inr rfl) ?_
                                show Q (some (vi 1)) (q_m m (cw_up co sz (16 * (5 + (min 10000 (x_v m (i + 1)))) + 2)) hd fi se te re fa (x_P m (i + 1 + 1)) (x_E m (i + 1 + 1)) (l + 1) dp cl (sz + 1))
                                first
                                  | (exfalso; omega)
                                  | exact hok _ _ (fun _ => some (x_v m i)) _ _ (by rw [p_s0, if_neg (by omega), if_pos (by rw [show p_fw true = 15 from rfl, show p_la true = 21 from rfl]; omega), if_neg (by omega), if_pos (by omega)]) (e_g1 he0 (by omega) (by omega)) (e_num (by rw [cw_up_eq, show min 10000 (x_v m i) = x_v m i by omega]) (by omega))
                                  | exact hok _ _ (fun E => some (E (p_wn true (x_c m i) 0))) _ _ (by rw [p_s0, if_neg (by omega), if_pos (by rw [show p_fw true = 15 from rfl, show p_la true = 21 from rfl]; omega), if_neg (by omega), if_neg (by omega), if_neg (fun q => by have := q.2; omega)]) (e_g1 he0 (by omega) (by omega)) (e_wrd (by rw [cw_up_eq, p_wn0 (by omega)]) (by rw [p_wn0 (by omega)]; omega) (by omega))
                                  | (rw [show i + 1 + 1 = i + 2 by omega]; exact hok _ _ (fun E => some (E (p_wn true (x_c m i) (x_v m (i + 1))))) _ _ (by rw [p_s0, if_neg (by omega), if_pos (by rw [show p_fw true = 15 from rfl, show p_la true = 21 from rfl]; omega), if_neg (by omega), if_neg (by omega), if_pos ⟨rfl, by omega⟩, if_pos (by omega)]) (e_g1 he0 (by omega) (by omega)) (e_wrd (by rw [cw_up_eq, p_wn20 (by omega), show min 10000 (x_v m (i + 1)) = x_v m (i + 1) by omega]) (by rw [p_wn20 (by omega)]; omega) (by omega)))
                                  | (rw [show i + 1 + 1 = i + 2 by omega]; exact hok _ _ (fun E => some (E (p_wn true (x_c m i) (x_v m (i + 1))))) _ _ (by rw [p_s0, if_neg (by omega), if_pos (by rw [show p_fw true = 15 from rfl, show p_la true = 21 from rfl]; omega), if_neg (by omega), if_neg (by omega), if_pos ⟨rfl, by omega⟩, if_pos (by omega)]) (e_g1 he0 (by omega) (by omega)) (e_wrd (by rw [cw_up_eq, p_wn21 (by omega), show min 10000 (x_v m (i + 1)) = x_v m (i + 1) by omega]) (by rw [p_wn21 (by omega)]; omega) (by omega)))
                            · refine br_f (show ¬ ((0 : Int) ≠ 0) by decide) ?_
                              show cw_C _ _ [vr x_reader_] (q_m m co hd fi se te re fa (x_P m (i + 1)) (x_E m (i + 1)) (l + 1) dp cl sz) _
                              refine Re_fail hm0 ⟨(q_m_ok hm0), ?_⟩
                              refine And.intro (Or.inl rfl) ?_
                              show Q (some (vi 0)) (q_m m co hd fi se te re (x_P m (i + 1)) (x_P m (i + 1)) (x_E m (i + 1)) (l + 1) dp cl sz)
                              first
                                | (exfalso; omega)
                                | exact her _ _ _ _ _ _ _ (by rw [p_s0, if_pos (by omega), if_pos (by omega)])
                                | exact her _ _ _ _ _ _ _ (by rw [p_s0, if_neg (by omega), if_neg (by rw [show p_fw true = 15 from rfl, show p_la true = 21 from rfl]; omega)])
                                | exact her _ _ _ _ _ _ _ (by rw [p_s0, if_neg (by omega), if_pos (by rw [show p_fw true = 15 from rfl, show p_la true = 21 from rfl]; omega), if_pos (by omega)])
                                | exact her _ _ _ _ _ _ _ (by rw [p_s0, if_neg (by omega), if_pos (by rw [show p_fw true = 15 from rfl, show p_la true = 21 from rfl]; omega), if_neg (by omega), if_neg (by omega), if_pos ⟨rfl, by omega⟩, if_neg (by omega)])
                          · show cw_C _ _ [vi (-1), vi 6] (q_m m co hd fi se te re fa (x_P m (i + 1)) (x_E m (i + 1)) (l + 1) dp cl sz) _
                            refine C_isBelow (fun (a42 : 0 ≤ (-1)) (a43 : (-1) < 6) => ⟨(q_m_ok hm0), ?_⟩) (fun (a44 : ¬ (0 ≤ (-1) ∧ (-1) < 6)) => ⟨(q_m_ok hm0), ?_⟩)
                            · refine br_t (show (1 : Int) ≠ 0 by decide) ?_
                              show cw_C _ _ [vr x_reader_] (q_m m co hd fi se te re fa (x_P m (i + 1)) (x_E m (i + 1)) (l + 1) dp cl sz) _
                              refine Rt_advance hm0 hX (by omega) ⟨(q_m_ok hm0), ?_⟩
                              refine And.intro (fun (c45 : x_c m i - 15 ≠ 5) => ?_) (fun (c45 : ¬ (x_c m i - 15 ≠ 5)) => ?_)
                              · refine And.intro (show -2147483648 ≤ 10 ∧ 10 < 2147483648 by omega) ?_
                                show cw_C _ _ [vr x_reader_text_, vi 2, vi 10] (q_m m co hd fi se te re fa (x_P m (i + 1 + 1)) (x_E m (i + 1 + 1)) (l + 1) dp cl sz) _
                                refine Te_emit hm0 (by omega) (by omega) (by omega) rfl ⟨(q_m_ok hm0), ?_⟩
                                refine And.intro (Or.inr rfl) ?_
                                show Q (some (vi 1)) (q_m m (cw_up co sz (162)) hd fi se te re fa (x_P m (i + 1 + 1)) (x_E m (i + 1 + 1)) (l + 1) dp cl (sz + 1))
                                first
                                  | (exfalso; omega)
                                  | exact hok _ _ (fun _ => some (x_v m i)) _ _ (by rw [p_s0, if_neg (by omega), if_pos (by rw [show p_fw true = 15 from rfl, show p_la true = 21 from rfl]; omega), if_neg (by omega), if_pos (by omega)]) (e_g1 he0 (by omega) (by omega)) (e_num (by rw [cw_up_eq, show min 10000 (x_v m i) = x_v m i by omega]) (by omega))
                                  | exact hok _ _ (fun E => some (E (p_wn true (x_c m i) 0))) _ _ (by rw [p_s0, if_neg (by omega), if_pos (by rw [show p_fw true = 15 from rfl, show p_la true = 21 from rfl]; omega), if_neg (by omega), if_neg (by omega), if_neg (fun q => by have := q.2; omega)]) (e_g1 he0 (by omega) (by omega)) (e_wrd (by rw [cw_up_eq, p_wn0 (by omega)]) (by rw [p_wn0 (by omega)]; omega) (by omega))
                                  | (rw [show i + 1 + 1 = i + 2 by omega]; exact hok _ _ (fun E => some (E (p_wn true (x_c m i) (x_v m (i + 1))))) _ _ (by rw [p_s0, if_neg (by omega), if_pos (by rw [show p_fw true = 15 from rfl, show p_la true = 21 from rfl]; omega), if_neg (by omega), if_neg (by omega), if_pos ⟨rfl, by omega⟩, if_pos (by omega)]) (e_g1 he0 (by omega) (by omega)) (e_wrd (by rw [cw_up_eq, p_wn20 (by omega), show min 10000 (x_v m (i + 1)) = x_v m (i + 1) by omega]) (by rw [p_wn20 (by omega)]; omega) (by omega)))
                                  | (rw [show i + 1 + 1 = i + 2 by omega]; exact hok _ _ (fun E => some (E (p_wn true (x_c m i) (x_v m (i + 1))))) _ _ (by rw [p_s0, if_neg (by omega), if_pos (by rw [show p_fw true = 15 from rfl, show p_la true = 21 from rfl]; omega), if_neg (by omega), if_neg (by omega), if_pos ⟨rfl, by omega⟩, if_pos (by omega)]) (e_g1 he0 (by omega) (by omega)) (e_wrd (by rw [cw_up_eq, p_wn21 (by omega), show min 10000 (x_v m (i + 1)) = x_v m (i + 1) by omega]) (by rw [p_wn21 (by omega)]; omega) (by omega)))
                              · refine And.intro (show -2147483648 ≤ 4 ∧ 4 < 2147483648 by omega) ?_
                                show cw_C _ _ [vr x_reader_text_, vi 2, vi 4] (q_m m co hd fi se te re fa (x_P m (i + 1 + 1)) (x_E m (i + 1 + 1)) (l + 1) dp cl sz) _
                                refine Te_emit hm0 (by omega) (by omega) (by omega) rfl ⟨(q_m_ok hm0), ?_⟩
                                refine And.intro (Or.inr rfl) ?_
                                show Q (some (vi 1)) (q_m m (cw_up co sz (66)) hd fi se te re fa (x_P m (i + 1 + 1)) (x_E m (i + 1 + 1)) (l + 1) dp cl (sz + 1))
                                first
                                  | (exfalso; omega)
                                  | exact hok _ _ (fun _ => some (x_v m i)) _ _ (by rw [p_s0, if_neg (by omega), if_pos (by rw [show p_fw true = 15 from rfl, show p_la true = 21 from rfl]; omega), if_neg (by omega), if_pos (by omega)]) (e_g1 he0 (by omega) (by omega)) (e_num (by rw [cw_up_eq, show min 10000 (x_v m i) = x_v m i by omega]) (by omega))
                                  | exact hok _ _ (fun E => some (E (p_wn true (x_c m i) 0))) _ _ (by rw [p_s0, if_neg (by omega), if_pos (by rw [show p_fw true = 15 from rfl, show p_la true = 21 from rfl]; omega), if_neg (by omega), if_neg (by omega), if_neg (fun q => by have := q.2; omega)]) (e_g1 he0 (by omega) (by omega)) (e_wrd (by rw [cw_up_eq, p_wn0 (by omega)]) (by rw [p_wn0 (by omega)]; omega) (by omega))
                                  | (rw [show i + 1 + 1 = i + 2 by omega]; exact hok _ _ (fun E => some (E (p_wn true (x_c m i) (x_v m (i + 1))))) _ _ (by rw [p_s0, if_neg (by omega), if_pos (by rw [show p_fw true = 15 from rfl, show p_la true = 21 from rfl]; omega), if_neg (by omega), if_neg (by omega), if_pos ⟨rfl, by omega⟩, if_pos (by omega)]) (e_g1 he0 (by omega) (by omega)) (e_wrd (by rw [cw_up_eq, p_wn20 (by omega), show min 10000 (x_v m (i + 1)) = x_v m (i + 1) by omega]) (by rw [p_wn20 (by omega)]; omega) (by omega)))
                                  | (rw [show i + 1 + 1 = i + 2 by omega]; exact hok _ _ (fun E => some (E (p_wn true (x_c m i) (x_v m (i + 1))))) _ _ (by rw [p_s0, if_neg (by omega), if_pos (by rw [show p_fw true = 15 from rfl, show p_la true = 21 from rfl]; omega), if_neg (by omega), if_neg (by omega), if_pos ⟨rfl, by omega⟩, if_pos (by omega)]) (e_g1 he0 (by omega) (by omega)) (e_wrd (by rw [cw_up_eq, p_wn21 (by omega), show min 10000 (x_v m (i + 1)) = x_v m (i + 1) by omega]) (by rw [p_wn21 (by omega)]; omega) (by omega)))
                            · refine br_f (show ¬ ((0 : Int) ≠ 0) by decide) ?_
                              show cw_C _ _ [vr x_reader_] (q_m m co hd fi se te re fa (x_P m (i + 1)) (x_E m (i + 1)) (l + 1) dp cl sz) _
                              refine Re_fail hm0 ⟨(q_m_ok hm0), ?_⟩
                              refine And.intro (Or.inl rfl) ?_
                              show Q (some (vi 0)) (q_m m co hd fi se te re (x_P m (i + 1)) (x_P m (i + 1)) (x_E m (i + 1)) (l + 1) dp cl sz)
                              first
                                | (exfalso; omega)
                                | exact her _ _ _ _ _ _ _ (by rw [p_s0, if_pos (by omega), if_pos (by omega)])
                                | exact her _ _ _ _ _ _ _ (by rw [p_s0, if_neg (by omega), if_neg (by rw [show p_fw true = 15 from rfl, show p_la true = 21 from rfl]; omega)])
                                | exact her _ _ _ _ _ _ _ (by rw [p_s0, if_neg (by omega), if_pos (by rw [show p_fw true = 15 from rfl, show p_la true = 21 from rfl]; omega), if_pos (by omega)])
                                | exact her _ _ _ _ _ _ _ (by rw [p_s0, if_neg (by omega), if_pos (by rw [show p_fw true = 15 from rfl, show p_la true = 21 from rfl]; omega), if_neg (by omega), if_neg (by omega), if_pos ⟨rfl, by omega⟩, if_neg (by omega)])
                      · show cw_C _ _ [vr x_reader_text_, vi 1, vi (min 10000 (x_v m i))] (q_m m co hd fi se te re fa (x_P m (i + 1)) (x_E m (i + 1)) (l + 1) dp cl sz) _
                        refine Te_emit hm0 (by omega) (by omega) (by omega) rfl ⟨(q_m_ok hm0), ?_⟩
                        refine And.intro (Or.inr rfl) ?_
                        show Q (some (vi 1)) (q_m m (cw_up co sz (16 * (min 10000 (x_v m i)) + 1)) hd fi se te re fa (x_P m (i + 1)) (x_E m (i + 1)) (l + 1) dp cl (sz + 1))
                        first
                          | (exfalso; omega)
                          | exact hok _ _ (fun _ => some (x_v m i)) _ _ (by rw [p_s0, if_neg (by omega), if_pos (by rw [show p_fw true = 15 from rfl, show p_la true = 21 from rfl]; omega), if_neg (by omega), if_pos (by omega)]) (e_g1 he0 (by omega) (by omega)) (e_num (by rw [cw_up_eq, show min 10000 (x_v m i) = x_v m i by omega]) (by omega))
                          | exact hok _ _ (fun E => some (E (p_wn true (x_c m i) 0))) _ _ (by rw [p_s0, if_neg (by omega), if_pos (by rw [show p_fw true = 15 from rfl, show p_la true = 21 from rfl]; omega), if_neg (by omega), if_neg (by omega), if_neg (fun q => by have := q.2; omega)]) (e_g1 he0 (by omega) (by omega)) (e_wrd (by rw [cw_up_eq, p_wn0 (by omega)]) (by rw [p_wn0 (by omega)]; omega) (by omega))
                          | (rw [show i + 1 + 1 = i + 2 by omega]; exact hok _ _ (fun E => some (E (p_wn true (x_c m i) (x_v m (i + 1))))) _ _ (by rw [p_s0, if_neg (by omega), if_pos (by rw [show p_fw true = 15 from rfl, show p_la true = 21 from rfl]; omega), if_neg (by omega), if_neg (by omega), if_pos ⟨rfl, by omega⟩, if_pos (by omega)]) (e_g1 he0 (by omega) (by omega)) (e_wrd (by rw [cw_up_eq, p_wn20 (by omega), show min 10000 (x_v m (i + 1)) = x_v m (i + 1) by omega]) (by rw [p_wn20 (by omega)]; omega) (by omega)))
                          | (rw [show i + 1 + 1 = i + 2 by omega]; exact hok _ _ (fun E => some (E (p_wn true (x_c m i) (x_v m (i + 1))))) _ _ (by rw [p_s0, if_neg (by omega), if_pos (by rw [show p_fw true = 15 from rfl, show p_la true = 21 from rfl]; omega), if_neg (by omega), if_neg (by omega), if_pos ⟨rfl, by omega⟩, if_pos (by omega)]) (e_g1 he0 (by omega) (by omega)) (e_wrd (by rw [cw_up_eq, p_wn21 (by omega), show min 10000 (x_v m (i + 1)) = x_v m (i + 1) by omega]) (by rw [p_wn21 (by omega)]; omega) (by omega)))
                    · show cw_C _ _ [vr x_reader_] (q_m m co hd fi se te re fa (x_P m i) (x_E m i) l dp cl sz) _
                      refine Re_fail hm0 ⟨(q_m_ok hm0), ?_⟩
                      refine And.intro (Or.inl rfl) ?_
                      show Q (some (vi 0)) (q_m m co hd fi se te re (x_P m i) (x_P m i) (x_E m i) l dp cl sz)
                      first
                        | (exfalso; omega)
                        | exact her _ _ _ _ _ _ _ (by rw [p_s0, if_pos (by omega), if_pos (by omega)])
                        | exact her _ _ _ _ _ _ _ (by rw [p_s0, if_neg (by omega), if_neg (by rw [show p_fw true = 15 from rfl, show p_la true = 21 from rfl]; omega)])
                        | exact her _ _ _ _ _ _ _ (by rw [p_s0, if_neg (by omega), if_pos (by rw [show p_fw true = 15 from rfl, show p_la true = 21 from rfl]; omega), if_pos (by omega)])
                        | exact her _ _ _ _ _ _ _ (by rw [p_s0, if_neg (by omega), if_pos (by rw [show p_fw true = 15 from rfl, show p_la true = 21 from rfl]; omega), if_neg (by omega), if_neg (by omega), if_pos ⟨rfl, by omega⟩, if_neg (by omega)])
            · refine And.intro (fun (c46 : min 10000 (x_v m i) ≠ (-1)) => ?_) (fun (c46 : ¬ (min 10000 (x_v m i) ≠ (-1))) => ?_)
              · refine And.intro (fun (c47 : 1000 < min 10000 (x_v m i)) => ?_) (fun (c47 : ¬ (1000 < min 10000 (x_v m i))) => ?_)
                · show cw_C _ _ [vr x_reader_] (q_m m co hd fi se te re fa (x_P m i) (x_E m i) l dp cl sz) _
                  refine Re_fail hm0 ⟨(q_m_ok hm0), ?_⟩
                  refine And.intro (Or.inl rfl) ?_
                  show Q (some (vi 0)) (q_m m co hd fi se te re (x_P m i) (x_P m i) (x_E m i) l dp cl sz)
                  first
                    | (exfalso; omega)
                    | exact her _ _ _ _ _ _ _ (by rw [p_s0, if_pos (by omega), if_pos (by omega)])
                    | exact her _ _ _ _ _ _ _ (by rw [p_s0, if_neg (by omega), if_neg (by rw [show p_fw true = 15 from rfl, show p_la true = 21 from rfl]; omega)])
                    | exact her _ _ _ _ _ _ _ (by rw [p_s0, if_neg (by omega), if_pos (by rw [show p_fw true = 15 from rfl, show p_la true = 21 from rfl]; omega), if_pos (by omega)])
                    | exact her _ _ _ _ _ _ _ (by rw [p_s0, if_neg (by omega), if_pos (by rw [show p_fw true = 15 from rfl, show p_la true = 21 from rfl]; omega), if_neg (by omega), if_neg (by omega), if_pos ⟨rfl, by omega⟩, if_neg (by omega)])
                · refine And.intro (fun (c48 : l < 50) => ?_) (fun (c48 : ¬ (l < 50)) => ?_)
                  · refine And.intro (show -2147483648 ≤ l + 1 ∧ l + 1 < 2147483648 by omega) ?_
                    have hm49 : la_ok (cw_put (q_m m co hd fi se te re fa (x_P m i) (x_E m i) l dp cl sz) x_reader_ 7 (l + 1)) := la_put hm (by decide) (Or.inl rfl)
                    show cw_C _ _ [vr x_reader_] (cw_put (q_m m co hd fi se te re fa (x_P m i) (x_E m i) l dp cl sz) x_reader_ 7 (l + 1)) _
                    rw [q_m_fpa]
                    have hm50 : la_ok (q_m m co hd fi se te re fa (x_P m i) (x_E m i) (l + 1) dp cl sz) := q_m_ok hm0
                    refine Rt_advance hm0 hX (by omega) ⟨(q_m_ok hm0), ?_⟩
                    refine And.intro (fun (c51 : min 10000 (x_v m i) = (-1)) => ?_) (fun (c51 : ¬ (min 10000 (x_v m i) = (-1))) => ?_)
                    · refine br_f (show ¬ (m x_reader_ 4 ≠ 0) by omega) ?_
                      refine br_t (show (-1 : Int) < 5 by decide) ?_
                      show cw_C _ _ [vr x_reader_text_, vi 2, vi (-1)] (q_m m co hd fi se te re fa (x_P m (i + 1)) (x_E m (i + 1)) (l + 1) dp cl sz) _
                      refine Te_emit hm0 (by omega) (by omega) (by omega) rfl ⟨(q_m_ok hm0), ?_⟩
                      refine And.intro (Or.inr rfl) ?_
                      show Q (some (vi 1)) (q_m m (cw_up co sz (-14)) hd fi se te re fa (x_P m (i + 1)) (x_E m (i + 1)) (l + 1) dp cl (sz + 1))
                      first
                        | (exfalso; omega)
                        | exact hok _ _ (fun _ => some (x_v m i)) _ _ (by rw [p_s0, if_neg (by omega), if_pos (by rw [show p_fw true = 15 from rfl, show p_la true = 21 from rfl]; omega), if_neg (by omega), if_pos (by omega)]) (e_g1 he0 (by omega) (by omega)) (e_num (by rw [cw_up_eq, show min 10000 (x_v m i) = x_v m i by omega]) (by omega))
                        | exact hok _ _ (fun E => some (E (p_wn true (x_c m i) 0))) _ _ (by rw [p_s0, if_neg (by omega), if_pos (by rw [show p_fw true = 15 from rfl, show p_la true = 21 from rfl]; omega), if_neg (by omega), if_neg (by omega), if_neg (fun q => by have := q.2; omega)]) (e_g1 he0 (by omega) (by omega)) (e_wrd (by rw [cw_up_eq, p_wn0 (by omega)]) (by rw [p_wn0 (by omega)]; omega) (by omega))
                        | (rw [show i + 1 + 1 = i + 2 by omega]; exact hok _ _ (fun E => some (E (p_wn true (x_c m i) (x_v m (i + 1))))) _ _ (by rw [p_s0, if_neg (by omega), if_pos (by rw [show p_fw true = 15 from rfl, show p_la true = 21 from rfl]; omega), if_neg (by omega), if_neg (by omega), if_pos ⟨rfl, by omega⟩, if_pos (by omega)]) (e_g1 he0 (by omega) (by omega)) (e_wrd (by rw [cw_up_eq, p_wn20 (by omega), show min 10000 (x_v m (i + 1)) = x_v m (i + 1) by omega]) (by rw [p_wn20 (by omega)]; omega) (by omega)))
                        | (rw [show i + 1 + 1 = i + 2 by omega]; exact hok _ _ (fun E => some (E (p_wn true (x_c m i) (x_v m (i + 1))))) _ _ (by rw [p_s0, if_neg (by omega), if_pos (by rw [show p_fw true = 15 from rfl, show p_la true = 21 from rfl]; omega), if_neg (by omega), if_neg (by omega), if_pos ⟨rfl, by omega⟩, if_pos (by omega)]) (e_g1 he0 (by omega) (by omega)) (e_wrd (by rw [cw_up_eq, p_wn21 (by omega), show min 10000 (x_v m (i + 1)) = x_v m (i + 1) by omega]) (by rw [p_wn21 (by omega)]; omega) (by omega)))
                    · show cw_C _ _ [vr x_reader_text_, vi 1, vi (min 10000 (x_v m i))] (q_m m co hd fi se te re fa (x_P m (i + 1)) (x_E m (i + 1)) (l + 1) dp cl sz) _
                      refine Te_emit hm0 (by omega) (by omega) (by omega) rfl ⟨(q_m_ok hm0), ?_⟩
                      refine And.intro (Or.inr rfl) ?_
                      show Q (some (vi 1)) (q_m m (cw_up co sz (16 * (min 10000 (x_v m i)) + 1)) hd fi se te re fa (x_P m (i + 1)) (x_E m (i + 1)) (l + 1) dp cl (sz + 1))
                      first
                        | (exfalso; omega)
                        | exact hok _ _ (fun _ => some (x_v m i)) _ _ (by rw [p_s0, if_neg (by omega), if_pos (by rw [show p_fw true = 15 from rfl, show p_la true = 21 from rfl]; omega), if_neg (by omega), if_pos (by omega)]) (e_g1 he0 (by omega) (by omega)) (e_num (by rw [cw_up_eq, show min 10000 (x_v m i) = x_v m i by omega]) (by omega))
                        | exact hok _ _ (fun E => some (E (p_wn true (x_c m i) 0))) _ _ (by rw [p_s0, if_neg (by omega), if_pos (by rw [show p_fw true = 15 from rfl, show p_la true = 21 from rfl]; omega), if_neg (by omega), if_neg (by omega), if_neg (fun q => by have := q.2; omega)]) (e_g1 he0 (by omega) (by omega)) (e_wrd (by rw [cw_up_eq, p_wn0 (by omega)]) (by rw [p_wn0 (by omega)]; omega) (by omega))
                        | (rw [show i + 1 + 1 = i + 2 by omega]; exact hok _ _ (fun E => some (E (p_wn true (x_c m i) (x_v m (i + 1))))) _ _ (by rw [p_s0, if_neg (by omega), if_pos (by rw [show p_fw true = 15 from rfl, show p_la true = 21 from rfl]; omega), if_neg (by omega), if_neg (by omega), if_pos ⟨rfl, by omega⟩, if_pos (by omega)]) (e_g1 he0 (by omega) (by omega)) (e_wrd (by rw [cw_up_eq, p_wn20 (by omega), show min 10000 (x_v m (i + 1)) = x_v m (i + 1) by omega]) (by rw [p_wn20 (by omega)]; omega) (by omega)))
                        | (rw [show i + 1 + 1 = i + 2 by omega]; exact hok _ _ (fun E => some (E (p_wn true (x_c m i) (x_v m (i + 1))))) _ _ (by rw [p_s0, if_neg (by omega), if_pos (by rw [show p_fw true = 15 from rfl, show p_la true = 21 from rfl]; omega), if_neg (by omega), if_neg (by omega), if_pos ⟨rfl, by omega⟩, if_pos (by omega)]) (e_g1 he0 (by omega) (by omega)) (e_wrd (by rw [cw_up_eq, p_wn21 (by omega), show min 10000 (x_v m (i + 1)) = x_v m (i + 1) by omega]) (by rw [p_wn21 (by omega)]; omega) (by omega)))
                  · show cw_C _ _ [vr x_reader_] (q_m m co hd fi se te re fa (x_P m i) (x_E m i) l dp cl sz) _
                    refine Re_fail hm0 ⟨(q_m_ok hm0), ?_⟩
                    refine And.intro (Or.inl rfl) ?_
                    show Q (some (vi 0)) (q_m m co hd fi se te re (x_P m i) (x_P m i) (x_E m i) l dp cl sz)
                    first
                      | (exfalso; omega)
                      | exact her _ _ _ _ _ _ _ (by rw [p_s0, if_pos (by omega), if_pos (by omega)])
                      | exact her _ _ _ _ _ _ _ (by rw [p_s0, if_neg (by omega), if_neg (by rw [show p_fw true = 15 from rfl, show p_la true = 21 from rfl]; omega)])
                      | exact her _ _ _ _ _ _ _ (by rw [p_s0, if_neg (by omega), if_pos (by rw [show p_fw true = 15 from rfl, show p_la true = 21 from rfl]; omega), if_pos (by omega)])
                      | exact her _ _ _ _ _ _ _ (by rw [p_s0, if_neg (by omega), if_pos (by rw [show p_fw true = 15 from rfl, show p_la true = 21 from rfl]; omega), if_neg (by omega), if_neg (by omega), if_pos ⟨rfl, by omega⟩, if_neg (by omega)])
              · refine br_t (show (-1 : Int) = (-1) by decide) ?_
                show cw_C _ _ [vr x_reader_] (q_m m co hd fi se te re fa (x_P m i) (x_E m i) l dp cl sz) _
                refine Re_fail hm0 ⟨(q_m_ok hm0), ?_⟩
                refine And.intro (Or.inl rfl) ?_
                show Q (some (vi 0)) (q_m m co hd fi se te re (x_P m i) (x_P m i) (x_E m i) l dp cl sz)
                first
                  | (exfalso; omega)
                  | exact her _ _ _ _ _ _ _ (by rw [p_s0, if_pos (by omega), if_pos (by omega)])
                  | exact her _ _ _ _ _ _ _ (by rw [p_s0, if_neg (by omega), if_neg (by rw [show p_fw true = 15 from rfl, show p_la true = 21 from rfl]; omega)])
                  | exact her _ _ _ _ _ _ _ (by rw [p_s0, if_neg (by omega), if_pos (by rw [show p_fw true = 15 from rfl, show p_la true = 21 from rfl]; omega), if_pos (by omega)])
                  | exact her _ _ _ _ _ _ _ (by rw [p_s0, if_neg (by omega), if_pos (by rw [show p_fw true = 15 from rfl, show p_la true = 21 from rfl]; omega), if_neg (by omega), if_neg (by omega), if_pos ⟨rfl, by omega⟩, if_neg (by omega)])
          · refine br_t (show m x_reader_ 4 = 0 by omega) ?_
            show cw_C _ _ [vr x_reader_, vr 14680076] (q_m m co hd fi se te re fa (x_P m i) (x_E m i) l dp cl sz) _
            refine Rt_word10 hm0 hX (fun (a52 : 15 ≤ x_c m i ∧ x_c m i ≤ 21) => ⟨hm, ?_⟩) (fun (a52 : ¬ (15 ≤ x_c m i ∧ x_c m i ≤ 21)) => ⟨hm, ?_⟩)
            · refine br_f (show ¬ ((-1 : Int) ≠ (-1)) by decide) ?_
              refine And.intro (fun (c53 : x_c m i - 15 = (-1)) => ?_) (fun (c53 : ¬ (x_c m i - 15 = (-1))) => ?_)
              · show cw_C _ _ [vr x_reader_] (q_m m co hd fi se te re fa (x_P m i) (x_E m i) l dp cl sz) _
                refine Re_fail hm0 ⟨(q_m_ok hm0), ?_⟩
                refine And.intro (Or.inl rfl) ?_
                show Q (some (vi 0)) (q_m m co hd fi se te re (x_P m i) (x_P m i) (x_E m i) l dp cl sz)
                first
                  | (exfalso; omega)
                  | exact her _ _ _ _ _ _ _ (by rw [p_s0, if_pos (by omega), if_pos (by omega)])
                  | exact her _ _ _ _ _ _ _ (by rw [p_s0, if_neg (by omega), if_neg (by rw [show p_fw true = 15 from rfl, show p_la true = 21 from rfl]; omega)])
                  | exact her _ _ _ _ _ _ _ (by rw [p_s0, if_neg (by omega), if_pos (by rw [show p_fw true = 15 from rfl, show p_la true = 21 from rfl]; omega), if_pos (by omega)])
                  | exact her _ _ _ _ _ _ _ (by rw [p_s0, if_neg (by omega), if_pos (by rw [show p_fw true = 15 from rfl, show p_la true = 21 from rfl]; omega), if_neg (by omega), if_neg (by omega), if_pos ⟨rfl, by omega⟩, if_neg (by omega)])
              · refine br_f (show ¬ ((1000 : Int) < (-1)) by decide) ?_
                refine And.intro (fun (c54 : l < 50) => ?_) (fun (c54 : ¬ (l < 50)) => ?_)
                · refine And.intro (show -2147483648 ≤ l + 1 ∧ l + 1 < 2147483648 by omega) ?_
                  have hm55 : la_ok (cw_put (q_m m co hd fi se te re fa (x_P m i) (x_E m i) l dp cl sz) x_reader_ 7 (l + 1)) := la_put hm (by decide) (Or.inl rfl)
                  show cw_C _ _ [vr x_reader_] (cw_put (q_m m co hd fi se te re fa (x_P m i) (x_E m i) l dp cl sz) x_reader_ 7 (l + 1)) _
                  rw [q_m_fpa]
                  have hm56 : la_ok (q_m m co hd fi se te re fa (x_P m i) (x_E m i) (l + 1) dp cl sz) := q_m_ok hm0
                  refine Rt_advance hm0 hX (by omega) ⟨(q_m_ok hm0), ?_⟩
                  refine br_t (show (-1 : Int) = (-1) by decide) ?_
                  refine br_f (show ¬ (m x_reader_ 4 ≠ 0) by omega) ?_
                  refine And.intro (fun (c57 : x_c m i - 15 < 5) => ?_) (fun (c57 : ¬ (x_c m i - 15 < 5)) => ?_)
                  · show cw_C _ _ [vr x_reader_text_, vi 2, vi (x_c m i - 15)] (q_m m co hd fi se te re fa (x_P m (i + 1)) (x_E m (i + 1)) (l + 1) dp cl sz) _
                    refine Te_emit hm0 (by omega) (by omega) (by omega) rfl ⟨(q_m_ok hm0), ?_⟩
                    refine And.intro (Or.inr rfl) ?_
                    show Q (some (vi 1)) (q_m m (cw_up co sz (16 * (x_c m i - 15) + 2)) hd fi se te re fa (x_P m (i + 1)) (x_E m (i + 1)) (l + 1) dp cl (sz + 1))
                    first
                      | (exfalso; omega)
                      | exact hok _ _ (fun _ => some (x_v m i)) _ _ (by rw [p_s0, if_neg (by omega), if_pos (by rw [show p_fw true = 15 from rfl, show p_la true = 21 from rfl]; omega), if_neg (by omega), if_pos (by omega)]) (e_g1 he0 (by omega) (by omega)) (e_num (by rw [cw_up_eq, show min 10000 (x_v m i) = x_v m i by omega]) (by omega))
                      | exact hok _ _ (fun E => some (E (p_wn true (x_c m i) 0))) _ _ (by rw [p_s0, if_neg (by omega), if_pos (by rw [show p_fw true = 15 from rfl, show p_la true = 21 from rfl]; omega), if_neg (by omega), if_neg (by omega), if_neg (fun q => by have := q.2; omega)]) (e_g1 he0 (by omega) (by omega)) (e_wrd (by rw [cw_up_eq, p_wn0 (by omega)]) (by rw [p_wn0 (by omega)]; omega) (by omega))
                      | (rw [show i + 1 + 1 = i + 2 by omega]; exact hok _ _ (fun E => some (E (p_wn true (x_c m i) (x_v m (i + 1))))) _ _ (by rw [p_s0, if_neg (by omega), if_pos (by rw [show p_fw true = 15 from rfl, show p_la true = 21 from rfl]; omega), if_neg (by omega), if_neg (by omega), if_pos ⟨rfl, by omega⟩, if_pos (by omega)]) (e_g1 he0 (by omega) (by omega)) (e_wrd (by rw [cw_up_eq, p_wn20 (by omega), show min 10000 (x_v m (i + 1)) = x_v m (i + 1) by omega]) (by rw [p_wn20 (by omega)]; omega) (by omega)))
                      | (rw [show i + 1 + 1 = i + 2 by omega]; exact hok _ _ (fun E => some (E (p_wn true (x_c m i) (x_v m (i + 1))))) _ _ (by rw [p_s0, if_neg (by omega), if_pos (by rw [show p_fw true = 15 from rfl, show p_la true = 21 from rfl]; omega), if_neg (by omega), if_neg (by omega), if_pos ⟨rfl, by omega⟩, if_pos (by omega)]) (e_g1 he0 (by omega) (by omega)) (e_wrd (by rw [cw_up_eq, p_wn21 (by omega), show min 10000 (x_v m (i + 1)) = x_v m (i + 1) by omega]) (by rw [p_wn21 (by omega)]; omega) (by omega)))
                  · show cw_C _ _ [vr x_reader_] (q_m m co hd fi se te re fa (x_P m (i + 1)) (x_E m (i + 1)) (l + 1) dp cl sz) _
                    refine Rt_number hm0 hX (fun (a58 : x_c m (i + 1) = 50) (a59 : 0 ≤ x_v m (i + 1)) => ⟨(q_m_ok hm0), ?_⟩) (fun (a58 : x_c m (i + 1) ≠ 50) => ⟨(q_m_ok hm0), ?_⟩)
                    · show cw_C _ _ [vi (min 10000 (x_v m (i + 1))), vi 6] (q_m m co hd fi se te re fa (x_P m (i + 1)) (x_E m (i + 1)) (l + 1) dp cl sz) _
                      refine C_isBelow (fun (a60 : 0 ≤ min 10000 (x_v m (i + 1))) (a61 : min 10000 (x_v m (i + 1)) < 6) => ⟨(q_m_ok hm0), ?_⟩) (fun (a62 : ¬ (0 ≤ min 10000 (x_v m (i + 1)) ∧ min 10000 (x_v m (i + 1)) < 6)) => ⟨(q_m_ok hm0), ?_⟩)
                      · refine br_t (show (1 : Int) ≠ 0 by decide) ?_
                        show cw_C _ _ [vr x_reader_] (q_m m co hd fi se te re fa (x_P m (i + 1)) (x_E m (i + 1)) (l + 1) dp cl sz) _
                        refine Rt_advance hm0 hX (by omega) ⟨(q_m_ok hm0), ?_⟩
                        refine And.intro (fun (c63 : x_c m i - 15 ≠ 5) => ?_) (fun (c63 : ¬ (x_c m i - 15 ≠ 5)) => ?_)
                        · refine And.intro (show -2147483648 ≤ 11 + (min 10000 (x_v m (i + 1))) ∧ 11 + (min 10000 (x_v m (i + 1))) < 2147483648 by omega) ?_
                          show cw_C _ _ [vr x_reader_text_, vi 2, vi (11 + (min 10000 (x_v m (i + 1))))] (q_m m co hd fi se te re fa (x_P m (i + 1 + 1)) (x_E m (i + 1 + 1)) (l + 1) dp cl sz) _
                          refine Te_emit hm0 (by omega) (by omega) (by omega) rfl ⟨(q_m_ok hm0), ?_⟩
                          refine And.intro (Or.inr rfl) ?_
                          show Q (some (vi 1)) (q_m m (cw_up co sz (16 * (11 + (min 10000 (x_v m (i + 1)))) + 2)) hd fi se te re fa (x_P m (i + 1 + 1)) (x_E m (i + 1 + 1)) (l + 1) dp cl (sz + 1))
                          first
                            | (exfalso; omega)
                            | exact hok _ _ (fun _ => some (x_v m i)) _ _ (by rw [p_s0, if_neg (by omega), if_pos (by rw [show p_fw true = 15 from rfl, show p_la true = 21 from rfl]; omega), if_neg (by omega), if_pos (by omega)]) (e_g1 he0 (by omega) (by omega)) (e_num (by rw [cw_up_eq, show min 10000 (x_v m i) = x_v m i by omega]) (by omega))
                            | exact hok _ _ (fun E => some (E (p_wn true (x_c m i) 0))) _ _ (by rw [p_s0, if_neg (by omega), if_pos (by rw [show p_fw true = 15 from rfl, show p_la true = 21 from rfl]; omega), if_neg (by omega), if_neg (by omega), if_neg (fun q => by have := q.2; omega)]) (e_g1 he0 (by omega) (by omega)) (e_wrd (by rw [cw_up_eq, p_wn0 (by omega)]) (by rw [p_wn0 (by omega)]; omega) (by omega))
                            | (rw [show i + 1 + 1 = i + 2 by omega]; exact hok _ _ (fun E => some (E (p_wn true (x_c m i) (x_v m (i + 1))))) _ _ (by rw [p_s0, if_neg (by omega), if_pos (by rw [show p_fw true = 15 from rfl, show p_la true = 21 from rfl]; omega), if_neg (by omega), if_neg (by omega), if_pos ⟨rfl, by omega⟩, if_pos (by omega)]) (e_g1 he0 (by omega) (by omega)) (e_wrd (by rw [cw_up_eq, p_wn20 (by omega), show min 10000 (x_v m (i + 1)) = x_v m (i + 1) by omega]) (by rw [p_wn20 (by omega)]; omega) (by omega)))
                            | (rw [show i + 1 + 1 = i + 2 by omega]; exact hok _ _ (fun E => some (E (p_wn true (x_c m i) (x_v m (i + 1))))) _ _ (by rw [p_s0, if_neg (by omega), if_pos (by rw [show p_fw true = 15 from rfl, show p_la true = 21 from rfl]; omega), if_neg (by omega), if_neg (by omega), if_pos ⟨rfl, by omega⟩, if_pos (by omega)]) (e_g1 he0 (by omega) (by omega)) (e_wrd (by rw [cw_up_eq, p_wn21 (by omega), show min 10000 (x_v m (i + 1)) = x_v m (i + 1) by omega]) (by rw [p_wn21 (by omega)]; omega) (by omega)))
                        · refine And.intro (show -2147483648 ≤ 5 + (min 10000 (x_v m (i + 1))) ∧ 5 + (min 10000 (x_v m (i + 1))) < 2147483648 by omega) ?_
                          show cw_C _ _ [vr x_reader_text_, vi 2, vi (5 + (min 10000 (x_v m (i + 1))))] (q_m m co hd fi se te re fa (x_P m (i + 1 + 1)) (x_E m (i + 1 + 1)) (l + 1) dp cl sz) _
                          refine Te_emit hm0 (by omega) (by omega) (by omega) rfl ⟨(q_m_ok hm0), ?_⟩
                          refine And.intro (Or.inr rfl) ?_
                          show Q (some (vi 1)) (q_m m (cw_up co sz (16 * (5 + (min 10000 (x_v m (i + 1)))) + 2)) hd fi se te re fa (x_P m (i + 1 + 1)) (x_E m (i + 1 + 1)) (l + 1) dp cl (sz + 1))
                          first
                            | (exfalso; omega)
                            | exact hok _ _ (fun _ => some (x_v m i)) _ _ (by rw [p_s0, if_neg (by omega), if_pos (by rw [show p_fw true = 15 from rfl, show p_la true = 21 from rfl]; omega), if_neg (by omega), if_pos (by omega)]) (e_g1 he0 (by omega) (by omega)) (e_num (by rw [cw_up_eq, show min 10000 (x_v m i) = x_v m i by omega]) (by omega))
                            | exact hok _ _ (fun E => some (E (p_wn true (x_c m i) 0))) _ _ (by rw [p_s0, if_neg (by omega), if_pos (by rw [show p_fw true = 15 from rfl, show p_la true = 21 from rfl]; omega), if_neg (by omega), if_neg (by omega), if_neg (fun q => by have := q.2; omega)]) (e_g1 he0 (by omega) (by omega)) (e_wrd (by rw [cw_up_eq, p_wn0 (by omega)]) (by rw [p_wn0 (by omega)]; omega) (by omega))
                            | (rw [show i + 1 + 1 = i + 2 by omega]; exact hok _ _ (fun E => some (E (p_wn true (x_c m i) (x_v m (i + 1))))) _ _ (by rw [p_s0, if_neg (by omega), if_pos (by rw [show p_fw true = 15 from rfl, show p_la true = 21 from rfl]; omega), if_neg (by omega), if_neg (by omega), if_pos ⟨rfl, by omega⟩, if_pos (by omega)]) (e_g1 he0 (by omega) (by omega)) (e_wrd (by rw [cw_up_eq, p_wn20 (by omega), show min 10000 (x_v m (i + 1)) = x_v m (i + 1) by omega]) (by rw [p_wn20 (by omega)]; omega) (by omega)))
                            | (rw [show i + 1 + 1 = i + 2 by omega]; exact hok _ _ (fun E => some (E (p_wn true (x_c m i) (x_v m (i + 1))))) _ _ (by rw [p_s0, if_neg (by omega), if_pos (by rw [show p_fw true = 15 from rfl, show p_la true = 21 from rfl]; omega), if_neg (by omega), if_neg (by omega), if_pos ⟨rfl, by omega⟩, if_pos (by omega)]) (e_g1 he0 (by omega) (by omega)) (e_wrd (by rw [cw_up_eq, p_wn21 (by omega), show min 10000 (x_v m (i + 1)) = x_v m (i + 1) by omega]) (by rw [p_wn21 (by omega)]; omega) (by omega)))
                      · refine br_f (show ¬ ((0 : Int) ≠ 0) by decide) ?_
                        show cw_C _ _ [vr x_reader_] (q_m m co hd fi se te re fa (x_P m (i + 1)) (x_E m (i + 1)) (l + 1) dp cl sz) _
                        refine Re_fail hm0 ⟨(q_m_ok hm0), ?_⟩
                        refine And.intro (Or.inl rfl) ?_
                        show Q (some (vi 0)) (q_m m co hd fi se te re (x_P m (i + 1)) (x_P m (i + 1)) (x_E m (i + 1)) (l + 1) dp cl sz)
                        first
                          | (exfalso; omega)
                          | exact her _ _ _ _ _ _ _ (by rw [p_s0, if_pos (by omega), if_pos (by omega)])
                          | exact her _ _ _ _ _ _ _ (by rw [p_s0, if_neg (by omega), if_neg (by rw [show p_fw true = 15 from rfl, show p_la true = 21 from rfl]; omega)])
                          | exact her _ _ _ _ _ _ _ (by rw [p_s0, if_neg (by omega), if_pos (by rw [show p_fw true = 15 from rfl, show p_la true = 21 from rfl]; omega), if_pos (by omega)])
                          | exact her _ _ _ _ _ _ _ (by rw [p_s0, if_neg (by omega), if_pos (by rw [show p_fw true = 15 from rfl, show p_la true = 21 from rfl]; omega), if_neg (by omega), if_neg (by omega), if_pos ⟨rfl, by omega⟩, if_neg (by omega)])
                    · show cw_C _ _ [vi (-1), vi 6] (q_m m co hd fi se te re fa (x_P m (i + 1)) (x_E m (i + 1)) (l + 1) dp cl sz) _
                      refine C_isBelow (fun (a64 : 0 ≤ (-1)) (a65 : (-1) < 6) => ⟨(q_m_ok hm0), ?_⟩) (fun (a66 : ¬ (0 ≤ (-1) ∧ (-1) < 6)) => ⟨(q_m_ok hm0), ?_⟩)
                      · refine br_t (show (1 : Int) ≠ 0 by decide) ?_
                        show cw_C _ _ [vr x_reader_] (q_m m co hd fi se te re fa (x_P m (i + 1)) (x_E m (i + 1)) (l + 1) dp cl sz) _
                        refine Rt_advance hm0 hX (by omega) ⟨(q_m_ok hm0), ?_⟩
                        refine And.intro (fun (c67 : x_c m i - 15 ≠ 5) => ?_) (fun (c67 : ¬ (x_c m i - 15 ≠ 5)) => ?_)
                        · refine And.intro (show -2147483648 ≤ 10 ∧ 10 < 2147483648 by omega) ?_
                          show cw_C _ _ [vr x_reader_text_, vi 2, vi 10] (q_m m co hd fi se te re fa (x_P m (i + 1 + 1)) (x_E m (i + 1 + 1)) (l + 1) dp cl sz) _
                          refine Te_emit hm0 (by omega) (by omega) (by omega) rfl ⟨(q_m_ok hm0), ?_⟩
                          refine And.intro (Or.inr rfl) ?_
                          show Q (some (vi 1)) (q_m m (cw_up co sz (162)) hd fi se te re fa (x_P m (i + 1 + 1)) (x_E m (i + 1 + 1)) (l + 1) dp cl (sz + 1))
                          first
                            | (exfalso; omega)
                            | exact hok _ _ (fun _ => some (x_v m i)) _ _ (by rw [p_s0, if_neg (by omega), if_pos (by rw [show p_fw true = 15 from rfl, show p_la true = 21 from rfl]; omega), if_neg (by omega), if_pos (by omega)]) (e_g1 he0 (by omega) (by omega)) (e_num (by rw [cw_up_eq, show min 10000 (x_v m i) = x_v m i by omega]) (by omega))
                            | exact hok _ _ (fun E => some (E (p_wn true (x_c m i) 0))) _ _ (by rw [p_s0, if_neg (by omega), if_pos (by rw [show p_fw true = 15 from rfl, show p_la true = 21 from rfl]; omega), if_neg (by omega), if_neg (by omega), if_neg (fun q => by have := q.2; omega)]) (e_g1 he0 (by omega) (by omega)) (e_wrd (by rw [cw_up_eq, p_wn0 (by omega)]) (by rw [p_wn0 (by omega)]; omega) (by omega))
                            | (rw [show i + 1 + 1 = i + 2 by omega]; exact hok _ _ (fun E => some (E (p_wn true (x_c m i) (x_v m (i + 1))))) _ _ (by rw [p_s0, if_neg (by omega), if_pos (by rw [show p_fw true = 15 from rfl, show p_la true = 21 from rfl]; omega), if_neg (by omega), if_neg (by omega), if_pos ⟨rfl, by omega⟩, if_pos (by omega)]) (e_g1 he0 (by omega) (by omega)) (e_wrd (by rw [cw_up_eq, p_wn20 (by omega), show min 10000 (x_v m (i + 1)) = x_v m (i + 1) by omega]) (by rw [p_wn20 (by omega)]; omega) (by omega)))
                            | (rw [show i + 1 + 1 = i + 2 by omega]; exact hok _ _ (fun E => some (E (p_wn true (x_c m i) (x_v m (i + 1))))) _ _ (by rw [p_s0, if_neg (by omega), if_pos (by rw [show p_fw true = 15 from rfl, show p_la true = 21 from rfl]; omega), if_neg (by omega), if_neg (by omega), if_pos ⟨rfl, by omega⟩, if_pos (by omega)]) (e_g1 he0 (by omega) (by omega)) (e_wrd (by rw [cw_up_eq, p_wn21 (by omega), show min 10000 (x_v m (i + 1)) = x_v m (i + 1) by omega]) (by rw [p_wn21 (by omega)]; omega) (by omega)))
                        · refine And.intro (show -2147483648 ≤ 4 ∧ 4 < 2147483648 by omega) ?_
                          show cw_C _ _ [vr x_reader_text_, vi 2, vi 4] (q_m m co hd fi se te re fa (x_P m (i + 1 + 1)) (x_E m (i + 1 + 1)) (l + 1) dp cl sz) _
                          refine Te_emit hm0 (by omega) (by omega) (by omega) rfl ⟨(q_m_ok hm0), ?_⟩
                          refine And.intro (Or.inr rfl) ?_
                          show Q (some (vi 1)) (q_m m (cw_up co sz (66)) hd fi se te re fa (x_P m (i + 1 + 1)) (x_E m (i + 1 + 1)) (l + 1) dp cl (sz + 1))
                          first
                            | (exfalso; omega)
                            | exact hok _ _ (fun _ => some (x_v m i)) _ _ (by rw [p_s0, if_neg (by omega), if_pos (by rw [show p_fw true = 15 from rfl, show p_la true = 21 from rfl]; omega), if_neg (by omega), if_pos (by omega)]) (e_g1 he0 (by omega) (by omega)) (e_num (by rw [cw_up_eq, show min 10000 (x_v m i) = x_v m i by omega]) (by omega))
                            | exact hok _ _ (fun E => some (E (p_wn true (x_c m i) 0))) _ _ (by rw [p_s0, if_neg (by omega), if_pos (by rw [show p_fw true = 15 from rfl, show p_la true = 21 from rfl]; omega), if_neg (by omega), if_neg (by omega), if_neg (fun q => by have := q.2; omega)]) (e_g1 he0 (by omega) (by omega)) (e_wrd (by rw [cw_up_eq, p_wn0 (by omega)]) (by rw [p_wn0 (by omega)]; omega) (by omega))
                            | (rw [show i + 1 + 1 = i + 2 by omega]; exact hok _ _ (fun E => some (E (p_wn true (x_c m i) (x_v m (i + 1))))) _ _ (by rw [p_s0, if_neg (by omega), if_pos (by rw [show p_fw true = 15 from rfl, show p_la true = 21 from rfl]; omega), if_neg (by omega), if_neg (by omega), if_pos ⟨rfl, by omega⟩, if_pos (by omega)]) (e_g1 he0 (by omega) (by omega)) (e_wrd (by rw [cw_up_eq, p_wn20 (by omega), show min 10000 (x_v m (i + 1)) = x_v m (i + 1) by omega]) (by rw [p_wn20 (by omega)]; omega) (by omega)))
                            | (rw [show i + 1 + 1 = i + 2 by omega]; exact hok _ _ (fun E => some (E (p_wn true (x_c m i) (x_v m (i + 1))))) _ _ (by rw [p_s0, if_neg (by omega), if_pos (by rw [show p_fw true = 15 from rfl, show p_la true = 21 from rfl]; omega), if_neg (by omega), if_neg (by omega), if_pos ⟨rfl, by omega⟩, if_pos (by omega)]) (e_g1 he0 (by omega) (by omega)) (e_wrd (by rw [cw_up_eq, p_wn21 (by omega), show min 10000 (x_v m (i + 1)) = x_v m (i + 1) by omega]) (by rw [p_wn21 (by omega)]; omega) (by omega)))
                      · refine br_f (show ¬ ((0 : Int) ≠ 0) by decide) ?_
                        show cw_C _ _ [vr x_reader_] (q_m m co hd fi se te re fa (x_P m (i + 1)) (x_E m (i + 1)) (l + 1) dp cl sz) _
                        refine Re_fail hm0 ⟨(q_m_ok hm0), ?_⟩
                        refine And.intro (Or.inl rfl) ?_
                        show Q (some (vi 0)) (q_m m co hd fi se te re (x_P m (i + 1)) (x_P m (i + 1)) (x_E m (i + 1)) (l + 1) dp cl sz)
                        first
                          | (exfalso; omega)
                          | exact her _ _ _ _ _ _ _ (by rw [p_s0, if_pos (by omega), if_pos (by omega)])
                          | exact her _ _ _ _ _ _ _ (by rw [p_s0, if_neg (by omega), if_neg (by rw [show p_fw true = 15 from rfl, show p_la true = 21 from rfl]; omega)])
                          | exact her _ _ _ _ _ _ _ (by rw [p_s0, if_neg (by omega), if_pos (by rw [show p_fw true = 15 from rfl, show p_la true = 21 from rfl]; omega), if_pos (by omega)])
                          | exact her _ _ _ _ _ _ _ (by rw [p_s0, if_neg (by omega), if_pos (by rw [show p_fw true = 15 from rfl, show p_la true = 21 from rfl]; omega), if_neg (by omega), if_neg (by omega), if_pos ⟨rfl, by omega⟩, if_neg (by omega)])
                · show cw_C _ _ [vr x_reader_] (q_m m co hd fi se te re fa (x_P m i) (x_E m i) l dp cl sz) _
                  refine Re_fail hm0 ⟨(q_m_ok hm0), ?_⟩
                  refine And.intro (Or.inl rfl) ?_
                  show Q (some (vi 0)) (q_m m co hd fi se te re (x_P m i) (x_P m i) (x_E m i) l dp cl sz)
                  first
                    | (exfalso; omega)
                    | exact her _ _ _ _ _ _ _ (by rw [p_s0, if_pos (by omega), if_pos (by omega)])
                    | exact her _ _ _ _ _ _ _ (by rw [p_s0, if_neg (by omega), if_neg (by rw [show p_fw true = 15 from rfl, show p_la true = 21 from rfl]; omega)])
                    | exact her _ _ _ _ _ _ _ (by rw [p_s0, if_neg (by omega), if_pos (by rw [show p_fw true = 15 from rfl, show p_la true = 21 from rfl]; omega), if_pos (by omega)])
                    | exact her _ _ _ _ _ _ _ (by rw [p_s0, if_neg (by omega), if_pos (by rw [show p_fw true = 15 from rfl, show p_la true = 21 from rfl]; omega), if_neg (by omega), if_neg (by omega), if_pos ⟨rfl, by omega⟩, if_neg (by omega)])
            · refine br_f (show ¬ ((-1 : Int) ≠ (-1)) by decide) ?_
              refine br_t (show (-1 : Int) = (-1) by decide) ?_
              show cw_C _ _ [vr x_reader_] (q_m m co hd fi se te re fa (x_P m i) (x_E m i) l dp cl sz) _
              refine Re_fail hm0 ⟨(q_m_ok hm0), ?_⟩
              refine And.intro (Or.inl rfl) ?_
              show Q (some (vi 0)) (q_m m co hd fi se te re (x_P m i) (x_P m i) (x_E m i) l dp cl sz)
              first
                | (exfalso; omega)
                | exact her _ _ _ _ _ _ _ (by rw [p_s0, if_pos (by omega), if_pos (by omega)])
                | exact her _ _ _ _ _ _ _ (by rw [p_s0, if_neg (by omega), if_neg (by rw [show p_fw true = 15 from rfl, show p_la true = 21 from rfl]; omega)])
                | exact her _ _ _ _ _ _ _ (by rw [p_s0, if_neg (by omega), if_pos (by rw [show p_fw true = 15 from rfl, show p_la true = 21 from rfl]; omega), if_pos (by omega)])
                | exact her _ _ _ _ _ _ _ (by rw [p_s0, if_neg (by omega), if_pos (by rw [show p_fw true = 15 from rfl, show p_la true = 21 from rfl]; omega), if_neg (by omega), if_neg (by omega), if_pos ⟨rfl, by omega⟩, if_neg (by omega)])
      | false =>
        intro d0 dp i l acc co sz hd fi se te re fa cl Q h0 h1 hl0 hl1 hd0 hd8 hz0 hzi he0 hd_ hf hok her
        obtain ⟨d, rfl⟩ : ∃ k, d0 = k + 5 := ⟨d0 - 5, by omega⟩
        have hm : la_ok (q_m m co hd fi se te re fa (x_P m i) (x_E m i) l dp cl sz) := q_m_ok hm0
        have hlt : x_c m i ≠ 0 → i < tk := ltn i h0 h1
        have hlw : m x_reader_ 4 = 1 := hlaw
        have hin : x_c m i = 191 ∨ x_c m i = 50 ∨ (8 ≤ x_c m i ∧ x_c m i ≤ 21) → i < tk := fun q => hlt (by omega)
        refine la_go_C hm 53 [] ?_
        show cw_C _ _ [vr x_reader_, vi 91] (q_m m co hd fi se te re fa (x_P m i) (x_E m i) l dp cl sz) _
        refine Rt_isSign hm0 hX (by decide) (by decide) (by decide) rfl (fun (a1 : x_c m i = 191) => ⟨hm, ?_⟩) (fun (a1 : x_c m i ≠ 191) => ⟨hm, ?_⟩)
        · refine br_f (show ¬ ((1 : Int) = 0) by decide) ?_
          refine And.intro (fun (c2 : dp < 8) => ?_) (fun (c2 : ¬ (dp < 8)) => ?_)
          · refine And.intro (show -2147483648 ≤ dp + 1 ∧ dp + 1 < 2147483648 by omega) ?_
            have hm3 : la_ok (cw_put (q_m m co hd fi se te re fa (x_P m i) (x_E m i) l dp cl sz) x_reader_ 8 (dp + 1)) := la_put hm (by decide) (Or.inl rfl)
            show cw_C _ _ [vr x_reader_] (cw_put (q_m m co hd fi se te re fa (x_P m i) (x_E m i) l dp cl sz) x_reader_ 8 (dp + 1)) _
            rw [q_m_fop]
            have hm4 : la_ok (q_m m co hd fi se te re fa (x_P m i) (x_E m i) l (dp + 1) cl sz) := q_m_ok hm0
            refine Rt_advance hm0 hX (by omega) ⟨(q_m_ok hm0), ?_⟩
            show cw_C _ _ [vr x_reader_, vi 0] (q_m m co hd fi se te re fa (x_P m (i + 1)) (x_E m (i + 1)) l (dp + 1) cl sz) _
            refine ih.2.2.2.1 _ (dp + 1) (i + 1) l acc co sz hd fi se te re fa cl _ (by omega) (by omega) (by omega) (by omega) (by omega) (by omega) (by omega) (by omega) he0 (by omega) (by omega) (fun (i5 l5 : Int) (D5 : p_D) (co5 : Int → Int) (z5 : Int) (e5 : p_s (x_c m) (x_v m) false f 3 (dp + 1) (i + 1) l acc = .ok (i5, l5, D5)) (G5 : e_g co sz co5 z5 (i + 1) i5) (T5 : e_sg co5 sz z5 l D5) => ⟨(q_m_ok hm0), ?_⟩) (fun (r5 : Int) (co5 : Int → Int) (s5 q5 a5 p5 z5 : Int) (e5 : p_s (x_c m) (x_v m) false f 3 (dp + 1) (i + 1) l acc = .error r5) => ⟨(q_m_ok hm0), ?_⟩)
            · have N5 := p_Nok ((p_sN (c := x_c m) (v := x_v m) (o := false) hz f (dp := dp + 1) (i := i + 1) (l := l) (acc := acc) (by omega) (by omega) (by omega) (by omega)).2.2.2.1 (by omega)) e5
              have S5 := N5.2.2.2.2 rfl
              have G51 := G5.1
              have G52 := G5.2.1
              have L5 : x_c m i5 ≠ 0 → i5 < tk := ltn _ (by omega) (by omega)
              refine br_t (show (1 : Int) ≠ 0 by decide) ?_
              show cw_C _ _ [vr x_reader_, vi 93] (q_m m co5 hd fi se te re fa (x_P m i5) (x_E m i5) l5 (dp + 1) cl z5) _
              refine Rt_isSign hm0 hX (by decide) (by decide) (by decide) rfl (fun (a6 : x_c m i5 = 193) => ⟨(q_m_ok hm0), ?_⟩) (fun (a6 : x_c m i5 ≠ 193) => ⟨(q_m_ok hm0), ?_⟩)
              · refine br_t (show (1 : Int) ≠ 0 by decide) ?_
                refine And.intro (show -2147483648 ≤ (dp + 1) - 1 ∧ (dp + 1) - 1 < 2147483648 by omega) ?_
                have hm7 : la_ok (cw_put (q_m m co5 hd fi se te re fa (x_P m i5) (x_E m i5) l5 (dp + 1) cl z5) x_reader_ 8 ((dp + 1) - 1)) := la_put (q_m_ok hm0) (by decide) (Or.inl rfl)
                show cw_C _ _ [vr x_reader_] (cw_put (q_m m co5 hd fi se te re fa (x_P m i5) (x_E m i5) l5 (dp + 1) cl z5) x_reader_ 8 ((dp + 1) - 1)) _
                rw [q_m_fop]
                have hm8 : la_ok (q_m m co5 hd fi se te re fa (x_P m i5) (x_E m i5) l5 ((dp + 1) - 1) cl z5) := q_m_ok hm0
                refine Rt_advance hm0 hX (by omega) ⟨(q_m_ok hm0), ?_⟩
                refine And.intro (Or.inr rfl) ?_
                show Q (some (vi 1)) (q_m m co5 hd fi se te re fa (x_P m (i5 + 1)) (x_E m (i5 + 1)) l5 ((dp + 1) - 1) cl z5)
                rw [show dp + 1 - 1 = dp by omega]
                exact hok _ _ D5 _ _ (by rw [p_s0, if_pos (by omega), if_neg (by omega), e5]; show (if _ then _ else _) = _; rw [if_pos (by omega)]) (e_gw G5 (by omega)) T5
              · refine br_f (show ¬ ((0 : Int) ≠ 0) by decide) ?_
                show cw_C _ _ [vr x_reader_] (q_m m co5 hd fi se te re fa (x_P m i5) (x_E m i5) l5 (dp + 1) cl z5) _
                refine Re_fail hm0 ⟨(q_m_ok hm0), ?_⟩
                refine And.intro (Or.inl rfl) ?_
                show Q (some (vi 0)) (q_m m co5 hd fi se te re (x_P m i5) (x_P m i5) (x_E m i5) l5 (dp + 1) cl z5)
                exact her _ _ _ _ _ _ _ (by rw [p_s0, if_pos (by omega), if_neg (by omega), e5]; show (if _ then _ else _) = _; rw [if_neg (by omega)])
            · refine br_f (show ¬ ((0 : Int) ≠ 0) by decide) ?_
              refine And.intro (Or.inl rfl) ?_
              show Q (some (vi 0)) (q_m m co5 hd fi se te re (x_P m r5) s5 q5 a5 p5 cl z5)
              exact her r5 _ _ _ _ _ _ (by rw [p_s0, if_pos (by omega), if_neg (by omega), e5]; rfl)
          · show cw_C _ _ [vr x_reader_] (q_m m co hd fi se te re fa (x_P m i) (x_E m i) l dp cl sz) _
            refine Re_fail hm0 ⟨(q_m_ok hm0), ?_⟩
            refine And.intro (Or.inl rfl) ?_
            show Q (some (vi 0)) (q_m m co hd fi se te re (x_P m i) (x_P m i) (x_E m i) l dp cl sz)
            first
              | (exfalso; omega)
              | exact her _ _ _ _ _ _ _ (by rw [p_s0, if_pos (by omega), if_pos (by omega)])
              | exact her _ _ _ _ _ _ _ (by rw [p_s0, if_neg (by omega), if_neg (by rw [show p_fw false = 8 from rfl, show p_la false = 15 from rfl]; omega)])
              | exact her _ _ _ _ _ _ _ (by rw [p_s0, if_neg (by omega), if_pos (by rw [show p_fw false = 8 from rfl, show p_la false = 15 from rfl]; omega), if_pos (by omega)])
        · refine br_t (show (0 : Int) = 0 by decide) ?_
          show cw_C _ _ [vr x_reader_] (q_m m co hd fi se te re fa (x_P m i) (x_E m i) l dp cl sz) _
          refine Rt_number hm0 hX (fun (a9 : x_c m i = 50) (a10 : 0 ≤ x_v m i) => ⟨hm, ?_⟩) (fun (a9 : x_c m i ≠ 50) => ⟨hm, ?_⟩)
          · refine br_f (show ¬ (m x_reader_ 4 = 0) by omega) ?_
            show cw_C _ _ [vr x_reader_, vr 12582924] (q_m m co hd fi se te re fa (x_P m i) (x_E m i) l dp cl sz) _
            refine Rt_word8 hm0 hX (fun (a11 : 8 ≤ x_c m i ∧ x_c m i ≤ 15) => ⟨hm, ?_⟩) (fun (a11 : ¬ (8 ≤ x_c m i ∧ x_c m i ≤ 15)) => ⟨hm, ?_⟩)
            · have pla11 := p_lwr a11
              refine And.intro (fun (c12 : min 10000 (x_v m i) ≠ (-1)) => ?_) (fun (c12 : ¬ (min 10000 (x_v m i) ≠ (-1))) => ?_)
              · refine And.intro (fun (c13 : 1000 < min 10000 (x_v m i)) => ?_) (fun (c13 : ¬ (1000 < min 10000 (x_v m i))) => ?_)
                · show cw_C _ _ [vr x_reader_] (q_m m co hd fi se te re fa (x_P m i) (x_E m i) l dp cl sz) _
                  refine Re_fail hm0 ⟨(q_m_ok hm0), ?_⟩
                  refine And.intro (Or.inl rfl) ?_
                  show Q (some (vi 0)) (q_m m co hd fi se te re (x_P m i) (x_P m i) (x_E m i) l dp cl sz)
                  first
                    | (exfalso; omega)
                    | exact her _ _ _ _ _ _ _ (by rw [p_s0, if_pos (by omega), if_pos (by omega)])
                    | exact her _ _ _ _ _ _ _ (by rw [p_s0, if_neg (by omega), if_neg (by rw [show p_fw false = 8 from rfl, show p_la false = 15 from rfl]; omega)])
                    | exact her _ _ _ _ _ _ _ (by rw [p_s0, if_neg (by omega), if_pos (by rw [show p_fw false = 8 from rfl, show p_la false = 15 from rfl]; omega), if_pos (by omega)])
                · refine And.intro (fun (c14 : l < 50) => ?_) (fun (c14 : ¬ (l < 50)) => ?_)
                  · refine And.intro (show -2147483648 ≤ l + 1 ∧ l + 1 < 2147483648 by omega) ?_
                    have hm15 : la_ok (cw_put (q_m m co hd fi se te re fa (x_P m i) (x_E m i) l dp cl sz) x_reader_ 7 (l + 1)) := la_put hm (by decide) (Or.inl rfl)
                    show cw_C _ _ [vr x_reader_] (cw_put (q_m m co hd fi se te re fa (x_P m i) (x_E m i) l dp cl sz) x_reader_ 7 (l + 1)) _
                    rw [q_m_fpa]
                    have hm16 : la_ok (q_m m co hd fi se te re fa (x_P m i) (x_E m i) (l + 1) dp cl sz) := q_m_ok hm0
                    refine Rt_advance hm0 hX (by omega) ⟨(q_m_ok hm0), ?_⟩
                    refine And.intro (fun (c17 : min 10000 (x_v m i) = (-1)) => ?_) (fun (c17 : ¬ (min 10000 (x_v m i) = (-1))) => ?_)
                    · refine br_t (show m x_reader_ 4 ≠ 0 by omega) ?_
                      show cw_C _ _ [vr x_reader_text_, vi 2, vi (p_lw (x_c m i))] (q_m m co hd fi se te re fa (x_P m (i + 1)) (x_E m (i + 1)) (l + 1) dp cl sz) _
                      refine Te_emit hm0 (by omega) (by omega) (by omega) rfl ⟨(q_m_ok hm0), ?_⟩
                      refine And.intro (Or.inr rfl) ?_
                      show Q (some (vi 1)) (q_m m (cw_up co sz (16 * (p_lw (x_c m i)) + 2)) hd fi se te re fa (x_P m (i + 1)) (x_E m (i + 1)) (l + 1) dp cl (sz + 1))
                      first
                        | (exfalso; omega)
                        | exact hok _ _ (fun _ => some (x_v m i)) _ _ (by rw [p_s0, if_neg (by omega), if_pos (by rw [show p_fw false = 8 from rfl, show p_la false = 15 from rfl]; omega), if_neg (by omega), if_pos (by omega)]) (e_g1 he0 (by omega) (by omega)) (e_num (by rw [cw_up_eq, show min 10000 (x_v m i) = x_v m i by omega]) (by omega))
                        | exact hok _ _ (fun E => some (E (p_wn false (x_c m i) 0))) _ _ (by rw [p_s0, if_neg (by omega), if_pos (by rw [show p_fw false = 8 from rfl, show p_la false = 15 from rfl]; omega), if_neg (by omega), if_neg (by omega), if_neg (fun q => by cases q.1)]) (e_g1 he0 (by omega) (by omega)) (e_wrd (by rw [cw_up_eq]; rfl) (by show p_lw (x_c m i) < 17; omega) (by omega))
                    · show cw_C _ _ [vr x_reader_text_, vi 1, vi (min 10000 (x_v m i))] (q_m m co hd fi se te re fa (x_P m (i + 1)) (x_E m (i + 1)) (l + 1) dp cl sz) _
                      refine Te_emit hm0 (by omega) (by omega) (by omega) rfl ⟨(q_m_ok hm0), ?_⟩
                      refine And.intro (Or.inr rfl) ?_
                      show Q (some (vi 1)) (q_m m (cw_up co sz (16 * (min 10000 (x_v m i)) + 1)) hd fi se te re fa (x_P m (i + 1)) (x_E m (i + 1)) (l + 1) dp cl (sz + 1))
                      first
                        | (exfalso; omega)
                        | exact hok _ _ (fun _ => some (x_v m i)) _ _ (by rw [p_s0, if_neg (by omega), if_pos (by rw [show p_fw false = 8 from rfl, show p_la false = 15 from rfl]; omega), if_neg (by omega), if_pos (by omega)]) (e_g1 he0 (by omega) (by omega)) (e_num (by rw [cw_up_eq, show min 10000 (x_v m i) = x_v m i by omega]) (by omega))
                        | exact hok _ _ (fun E => some (E (p_wn false (x_c m i) 0))) _ _ (by rw [p_s0, if_neg (by omega), if_pos (by rw [show p_fw false = 8 from rfl, show p_la false = 15 from rfl]; omega), if_neg (by omega), if_neg (by omega), if_neg (fun q => by cases q.1)]) (e_g1 he0 (by omega) (by omega)) (e_wrd (by rw [cw_up_eq]; rfl) (by show p_lw (x_c m i) < 17; omega) (by omega))
                  · show cw_C _ _ [vr x_reader_] (q_m m co hd fi se te re fa (x_P m i) (x_E m i) l dp cl sz) _
                    refine Re_fail hm0 ⟨(q_m_ok hm0), ?_⟩
                    refine And.intro (Or.inl rfl) ?_
                    show Q (some (vi 0)) (q_m m co hd fi se te re (x_P m i) (x_P m i) (x_E m i) l dp cl sz)
                    first
                      | (exfalso; omega)
                      | exact her _ _ _ _ _ _ _ (by rw [p_s0, if_pos (by omega), if_pos (by omega)])
                      | exact her _ _ _ _ _ _ _ (by rw [p_s0, if_neg (by omega), if_neg (by rw [show p_fw false = 8 from rfl, show p_la false = 15 from rfl]; omega)])
                      | exact her _ _ _ _ _ _ _ (by rw [p_s0, if_neg (by omega), if_pos (by rw [show p_fw false = 8 from rfl, show p_la false = 15 from rfl]; omega), if_pos (by omega)])
              · refine And.intro (fun (c18 : p_lw (x_c m i) = (-1)) => ?_) (fun (c18 : ¬ (p_lw (x_c m i) = (-1))) => ?_)
                · show cw_C _ _ [vr x_reader_] (q_m m co hd fi se te re fa (x_P m i) (x_E m i) l dp cl sz) _
                  refine Re_fail hm0 ⟨(q_m_ok hm0), ?_⟩
                  refine And.intro (Or.inl rfl) ?_
                  show Q (some (vi 0)) (q_m m co hd fi se te re (x_P m i) (x_P m i) (x_E m i) l dp cl sz)
                  first
                    | (exfalso; omega)
                    | exact her _ _ _ _ _ _ _ (by rw [p_s0, if_pos (by omega), if_pos (by omega)])
                    | exact her _ _ _ _ _ _ _ (by rw [p_s0, if_neg (by omega), if_neg (by rw [show p_fw false = 8 from rfl, show p_la false = 15 from rfl]; omega)])
                    | exact her _ _ _ _ _ _ _ (by rw [p_s0, if_neg (by omega), if_pos (by rw [show p_fw false = 8 from rfl, show p_la false = 15 from rfl]; omega), if_pos (by omega)])
                · refine And.intro (fun (c19 : 1000 < min 10000 (x_v m i)) => ?_) (fun (c19 : ¬ (1000 < min 10000 (x_v m i))) => ?_)
                  · show cw_C _ _ [vr x_reader_] (q_m m co hd fi se te re fa (x_P m i) (x_E m i) l dp cl sz) _
                    refine Re_fail hm0 ⟨(q_m_ok hm0), ?_⟩
                    refine And.intro (Or.inl rfl) ?_
                    show Q (some (vi 0)) (q_m m co hd fi se te re (x_P m i) (x_P m i) (x_E m i) l dp cl sz)
                    first
                      | (exfalso; omega)
                      | exact her _ _ _ _ _ _ _ (by rw [p_s0, if_pos (by omega), if_pos (by omega)])
                      | exact her _ _ _ _ _ _ _ (by rw [p_s0, if_neg (by omega), if_neg (by rw [show p_fw false = 8 from rfl, show p_la false = 15 from rfl]; omega)])
                      | exact her _ _ _ _ _ _ _ (by rw [p_s0, if_neg (by omega), if_pos (by rw [show p_fw false = 8 from rfl, show p_la false = 15 from rfl]; omega), if_pos (by omega)])
                  · refine And.intro (fun (c20 : l < 50) => ?_) (fun (c20 : ¬ (l < 50)) => ?_)
                    · refine And.intro (show -2147483648 ≤ l + 1 ∧ l + 1 < 2147483648 by omega) ?_
                      have hm21 : la_ok (cw_put (q_m m co hd fi se te re fa (x_P m i) (x_E m i) l dp cl sz) x_reader_ 7 (l + 1)) := la_put hm (by decide) (Or.inl rfl)
                      show cw_C _ _ [vr x_reader_] (cw_put (q_m m co hd fi se te re fa (x_P m i) (x_E m i) l dp cl sz) x_reader_ 7 (l + 1)) _
                      rw [q_m_fpa]
                      have hm22 : la_ok (q_m m co hd fi se te re fa (x_P m i) (x_E m i) (l + 1) dp cl sz) := q_m_ok hm0
                      refine Rt_advance hm0 hX (by omega) ⟨(q_m_ok hm0), ?_⟩
                      refine And.intro (fun (c23 : min 10000 (x_v m i) = (-1)) => ?_) (fun (c23 : ¬ (min 10000 (x_v m i) = (-1))) => ?_)
                      · refine br_t (show m x_reader_ 4 ≠ 0 by omega) ?_
                        show cw_C _ _ [vr x_reader_text_, vi 2, vi (p_lw (x_c m i))] (q_m m co hd fi se te re fa (x_P m (i + 1)) (x_E m (i + 1)) (l + 1) dp cl sz) _
                        refine Te_emit hm0 (by omega) (by omega) (by omega) rfl ⟨(q_m_ok hm0), ?_⟩
                        refine And.intro (Or.inr rfl) ?_
                        show Q (some (vi 1)) (q_m m (cw_up co sz (16 * (p_lw (x_c m i)) + 2)) hd fi se te re fa (x_P m (i + 1)) (x_E m (i + 1)) (l + 1) dp cl (sz + 1))
                        first
                          | (exfalso; omega)
                          | exact hok _ _ (fun _ => some (x_v m i)) _ _ (by rw [p_s0, if_neg (by omega), if_pos (by rw [show p_fw false = 8 from rfl, show p_la false = 15 from rfl]; omega), if_neg (by omega), if_pos (by omega)]) (e_g1 he0 (by omega) (by omega)) (e_num (by rw [cw_up_eq, show min 10000 (x_v m i) = x_v m i by omega]) (by omega))
                          | exact hok _ _ (fun E => some (E (p_wn false (x_c m i) 0))) _ _ (by rw [p_s0, if_neg (by omega), if_pos (by rw [show p_fw false = 8 from rfl, show p_la false = 15 from rfl]; omega), if_neg (by omega), if_neg (by omega), if_neg (fun q => by cases q.1)]) (e_g1 he0 (by omega) (by omega)) (e_wrd (by rw [cw_up_eq]; rfl) (by show p_lw (x_c m i) < 17; omega) (by omega))
                      · show cw_C _ _ [vr x_reader_text_, vi 1, vi (min 10000 (x_v m i))] (q_m m co hd fi se te re fa (x_P m (i + 1)) (x_E m (i + 1)) (l + 1) dp cl sz) _
                        refine Te_emit hm0 (by omega) (by omega) (by omega) rfl ⟨(q_m_ok hm0), ?_⟩
                        refine And.intro (Or.inr rfl) ?_
                        show Q (some (vi 1)) (q_m m (cw_up co sz (16 * (min 10000 (x_v m i)) + 1)) hd fi se te re fa (x_P m (i + 1)) (x_E m (i + 1)) (l + 1) dp cl (sz + 1))
                        first
                          | (exfalso; omega)
                          | exact hok _ _ (fun _ => some (x_v m i)) _ _ (by rw [p_s0, if_neg (by omega), if_pos (by rw [show p_fw false = 8 from rfl, show p_la false = 15 from rfl]; omega), if_neg (by omega), if_pos (by omega)]) (e_g1 he0 (by omega) (by omega)) (e_num (by rw [cw_up_eq, show min 10000 (x_v m i) = x_v m i by omega]) (by omega))
                          | exact hok _ _ (fun E => some (E (p_wn false (x_c m i) 0))) _ _ (by rw [p_s0, if_neg (by omega), if_pos (by rw [show p_fw false = 8 from rfl, show p_la false = 15 from rfl]; omega), if_neg (by omega), if_neg (by omega), if_neg (fun q => by cases q.1)]) (e_g1 he0 (by omega) (by omega)) (e_wrd (by rw [cw_up_eq]; rfl) (by show p_lw (x_c m i) < 17; omega) (by omega))
                    · show cw_C _ _ [vr x_reader_] (q_m m co hd fi se te re fa (x_P m i) (x_E m i) l dp cl sz) _
                      refine Re_fail hm0 ⟨(q_m_ok hm0), ?_⟩
                      refine And.intro (Or.inl rfl) ?_
                      show Q (some (vi 0)) (q_m m co hd fi se te re (x_P m i) (x_P m i) (x_E m i) l dp cl sz)
                      first
                        | (exfalso; omega)
                        | exact her _ _ _ _ _ _ _ (by rw [p_s0, if_pos (by omega), if_pos (by omega)])
                        | exact her _ _ _ _ _ _ _ (by rw [p_s0, if_neg (by omega), if_neg (by rw [show p_fw false = 8 from rfl, show p_la false = 15 from rfl]; omega)])
                        | exact her _ _ _ _ _ _ _ (by rw [p_s0, if_neg (by omega), if_pos (by rw [show p_fw false = 8 from rfl, show p_la false = 15 from rfl]; omega), if_pos (by omega)])
            · refine And.intro (fun (c24 : min 10000 (x_v m i) ≠ (-1)) => ?_) (fun (c24 : ¬ (min 10000 (x_v m i) ≠ (-1))) => ?_)
              · refine And.intro (fun (c25 : 1000 < min 10000 (x_v m i)) => ?_) (fun (c25 : ¬ (1000 < min 10000 (x_v m i))) => ?_)
                · show cw_C _ _ [vr x_reader_] (q_m m co hd fi se te re fa (x_P m i) (x_E m i) l dp cl sz) _
                  refine Re_fail hm0 ⟨(q_m_ok hm0), ?_⟩
                  refine And.intro (Or.inl rfl) ?_
                  show Q (some (vi 0)) (q_m m co hd fi se te re (x_P m i) (x_P m i) (x_E m i) l dp cl sz)
                  first
                    | (exfalso; omega)
                    | exact her _ _ _ _ _ _ _ (by rw [p_s0, if_pos (by omega), if_pos (by omega)])
                    | exact her _ _ _ _ _ _ _ (by rw [p_s0, if_neg (by omega), if_neg (by rw [show p_fw false = 8 from rfl, show p_la false = 15 from rfl]; omega)])
                    | exact her _ _ _ _ _ _ _ (by rw [p_s0, if_neg (by omega), if_pos (by rw [show p_fw false = 8 from rfl, show p_la false = 15 from rfl]; omega), if_pos (by omega)])
                · refine And.intro (fun (c26 : l < 50) => ?_) (fun (c26 : ¬ (l < 50)) => ?_)
                  · refine And.intro (show -2147483648 ≤ l + 1 ∧ l + 1 < 2147483648 by omega) ?_
                    have hm27 : la_ok (cw_put (q_m m co hd fi se te re fa (x_P m i) (x_E m i) l dp cl sz) x_reader_ 7 (l + 1)) := la_put hm (by decide) (Or.inl rfl)
                    show cw_C _ _ [vr x_reader_] (cw_put (q_m m co hd fi se te re fa (x_P m i) (x_E m i) l dp cl sz) x_reader_ 7 (l + 1)) _
                    rw [q_m_fpa]
                    have hm28 : la_ok (q_m m co hd fi se te re fa (x_P m i) (x_E m i) (l + 1) dp cl sz) := q_m_ok hm0
                    refine Rt_advance hm0 hX (by omega) ⟨(q_m_ok hm0), ?_⟩
                    refine And.intro (fun (c29 : min 10000 (x_v m i) = (-1)) => ?_) (fun (c29 : ¬ (min 10000 (x_v m i) = (-1))) => ?_)
                    · refine br_t (show m x_reader_ 4 ≠ 0 by omega) ?_
                      show cw_C _ _ [vr x_reader_text_, vi 2, vi (-1)] (q_m m co hd fi se te re fa (x_P m (i + 1)) (x_E m (i + 1)) (l + 1) dp cl sz) _
                      refine Te_emit hm0 (by omega) (by omega) (by omega) rfl ⟨(q_m_ok hm0), ?_⟩
                      refine And.intro (Or.inr rfl) ?_
                      show Q (some (vi 1)) (q_m m (cw_up co sz (-14)) hd fi se te re fa (x_P m (i + 1)) (x_E m (i + 1)) (l + 1) dp cl (sz + 1))
                      first
                        | (exfalso; omega)
                        | exact hok _ _ (fun _ => some (x_v m i)) _ _ (by rw [p_s0, if_neg (by omega), if_pos (by rw [show p_fw false = 8 from rfl, show p_la false = 15 from rfl]; omega), if_neg (by omega), if_pos (by omega)]) (e_g1 he0 (by omega) (by omega)) (e_num (by rw [cw_up_eq, show min 10000 (x_v m i) = x_v m i by omega]) (by omega))
                        | exact hok _ _ (fun E => some (E (p_wn false (x_c m i) 0))) _ _ (by rw [p_s0, if_neg (by omega), if_pos (by rw [show p_fw false = 8 from rfl, show p_la false = 15 from rfl]; omega), if_neg (by omega), if_neg (by omega), if_neg (fun q => by cases q.1)]) (e_g1 he0 (by omega) (by omega)) (e_wrd (by rw [cw_up_eq]; rfl) (by show p_lw (x_c m i) < 17; omega) (by omega))
                    · show cw_C _ _ [vr x_reader_text_, vi 1, vi (min 10000 (x_v m i))] (q_m m co hd fi se te re fa (x_P m (i + 1)) (x_E m (i + 1)) (l + 1) dp cl sz) _
                      refine Te_emit hm0 (by omega) (by omega) (by omega) rfl ⟨(q_m_ok hm0), ?_⟩
                      refine And.intro (Or.inr rfl) ?_
                      show Q (some (vi 1)) (q_m m (cw_up co sz (16 * (min 10000 (x_v m i)) + 1)) hd fi se te re fa (x_P m (i + 1)) (x_E m (i + 1)) (l + 1) dp cl (sz + 1))
                      first
                        | (exfalso; omega)
                        | exact hok _ _ (fun _ => some (x_v m i)) _ _ (by rw [p_s0, if_neg (by omega), if_pos (by rw [show p_fw false = 8 from rfl, show p_la false = 15 from rfl]; omega), if_neg (by omega), if_pos (by omega)]) (e_g1 he0 (by omega) (by omega)) (e_num (by rw [cw_up_eq, show min 10000 (x_v m i) = x_v m i by omega]) (by omega))
                        | exact hok _ _ (fun E => some (E (p_wn false (x_c m i) 0))) _ _ (by rw [p_s0, if_neg (by omega), if_pos (by rw [show p_fw false = 8 from rfl, show p_la false = 15 from rfl]; omega), if_neg (by omega), if_neg (by omega), if_neg (fun q => by cases q.1)]) (e_g1 he0 (by omega) (by omega)) (e_wrd (by rw [cw_up_eq]; rfl) (by show p_lw (x_c m i) < 17; omega) (by omega))
                  · show cw_C _ _ [vr x_reader_] (q_m m co hd fi se te re fa (x_P m i) (x_E m i) l dp cl sz) _
                    refine Re_fail hm0 ⟨(q_m_ok hm0), ?_⟩
                    refine And.intro (Or.inl rfl) ?_
                    show Q (some (vi 0)) (q_m m co hd fi se te re (x_P m i) (x_P m i) (x_E m i) l dp cl sz)
                    first
                      | (exfalso; omega)
                      | exact her _ _ _ _ _ _ _ (by rw [p_s0, if_pos (by omega), if_pos (by omega)])
                      | exact her _ _ _ _ _ _ _ (by rw [p_s0, if_neg (by omega), if_neg (by rw [show p_fw false = 8 from rfl, show p_la false = 15 from rfl]; omega)])
                      | exact her _ _ _ _ _ _ _ (by rw [p_s0, if_neg (by omega), if_pos (by rw [show p_fw false = 8 from rfl, show p_la false = 15 from rfl]; omega), if_pos (by omega)])
              · refine br_t (show (-1 : Int) = (-1) by decide) ?_
                show cw_C _ _ [vr x_reader_] (q_m m co hd fi se te re fa (x_P m i) (x_E m i) l dp cl sz) _
                refine Re_fail hm0 ⟨(q_m_ok hm0), ?_⟩
                refine And.intro (Or.inl rfl) ?_
                show Q (some (vi 0)) (q_m m co hd fi se te re (x_P m i) (x_P m i) (x_E m i) l dp cl sz)
                first
                  | (exfalso; omega)
                  | exact her _ _ _ _ _ _ _ (by rw [p_s0, if_pos (by omega), if_pos (by omega)])
                  | exact her _ _ _ _ _ _ _ (by rw [p_s0, if_neg (by omega), if_neg (by rw [show p_fw false = 8 from rfl, show p_la false = 15 from rfl]; omega)])
                  | exact her _ _ _ _ _ _ _ (by rw [p_s0, if_neg (by omega), if_pos (by rw [show p_fw false = 8 from rfl, show p_la false = 15 from rfl]; omega), if_pos (by omega)])
          · refine br_f (show ¬ (m x_reader_ 4 = 0) by omega) ?_
            show cw_C _ _ [vr x_reader_, vr 12582924] (q_m m co hd fi se te re fa (x_P m i) (x_E m i) l dp cl sz) _
            refine Rt_word8 hm0 hX (fun (a30 : 8 ≤ x_c m i ∧ x_c m i ≤ 15) => ⟨hm, ?_⟩) (fun (a30 : ¬ (8 ≤ x_c m i ∧ x_c m i ≤ 15)) => ⟨hm, ?_⟩)
            · have pla30 := p_lwr a30
              refine br_f (show ¬ ((-1 : Int) ≠ (-1)) by decide) ?_
              refine And.intro (fun (c31 : p_lw (x_c m i) = (-1)) => ?_) (fun (c31 : ¬ (p_lw (x_c m i) = (-1))) => ?_)
              · show cw_C _ _ [vr x_reader_] (q_m m co hd fi se te re fa (x_P m i) (x_E m i) l dp cl sz) _
                refine Re_fail hm0 ⟨(q_m_ok hm0), ?_⟩
                refine And.intro (Or.inl rfl) ?_
                show Q (some (vi 0)) (q_m m co hd fi se te re (x_P m i) (x_P m i) (x_E m i) l dp cl sz)
                first
                  | (exfalso; omega)
                  | exact her _ _ _ _ _ _ _ (by rw [p_s0, if_pos (by omega), if_pos (by omega)])
                  | exact her _ _ _ _ _ _ _ (by rw [p_s0, if_neg (by omega), if_neg (by rw [show p_fw false = 8 from rfl, show p_la false = 15 from rfl]; omega)])
                  | exact her _ _ _ _ _ _ _ (by rw [p_s0, if_neg (by omega), if_pos (by rw [show p_fw false = 8 from rfl, show p_la false = 15 from rfl]; omega), if_pos (by omega)])
              · refine br_f (show ¬ ((1000 : Int) < (-1)) by decide) ?_
                refine And.intro (fun (c32 : l < 50) => ?_) (fun (c32 : ¬ (l < 50)) => ?_)
                · refine And.intro (show -2147483648 ≤ l + 1 ∧ l + 1 < 2147483648 by omega) ?_
                  have hm33 : la_ok (cw_put (q_m m co hd fi se te re fa (x_P m i) (x_E m i) l dp cl sz) x_reader_ 7 (l + 1)) := la_put hm (by decide) (Or.inl rfl)
                  show cw_C _ _ [vr x_reader_] (cw_put (q_m m co hd fi se te re fa (x_P m i) (x_E m i) l dp cl sz) x_reader_ 7 (l + 1)) _
                  rw [q_m_fpa]
                  have hm34 : la_ok (q_m m co hd fi se te re fa (x_P m i) (x_E m i) (l + 1) dp cl sz) := q_m_ok hm0
                  refine Rt_advance hm0 hX (by omega) ⟨(q_m_ok hm0), ?_⟩
                  refine br_t (show (-1 : Int) = (-1) by decide) ?_
                  refine br_t (show m x_reader_ 4 ≠ 0 by omega) ?_
                  show cw_C _ _ [vr x_reader_text_, vi 2, vi (p_lw (x_c m i))] (q_m m co hd fi se te re fa (x_P m (i + 1)) (x_E m (i + 1)) (l + 1) dp cl sz) _
                  refine Te_emit hm0 (by omega) (by omega) (by omega) rfl ⟨(q_m_ok hm0), ?_⟩
                  refine And.intro (Or.inr rfl) ?_
                  show Q (some (vi 1)) (q_m m (cw_up co sz (16 * (p_lw (x_c m i)) + 2)) hd fi se te re fa (x_P m (i + 1)) (x_E m (i + 1)) (l + 1) dp cl (sz + 1))
                  first
                    | (exfalso; omega)
                    | exact hok _ _ (fun _ => some (x_v m i)) _ _ (by rw [p_s0, if_neg (by omega), if_pos (by rw [show p_fw false = 8 from rfl, show p_la false = 15 from rfl]; omega), if_neg (by omega), if_pos (by omega)]) (e_g1 he0 (by omega) (by omega)) (e_num (by rw [cw_up_eq, show min 10000 (x_v m i) = x_v m i by omega]) (by omega))
                    | exact hok _ _ (fun E => some (E (p_wn false (x_c m i) 0))) _ _ (by rw [p_s0, if_neg (by omega), if_pos (by rw [show p_fw false = 8 from rfl, show p_la false = 15 from rfl]; omega), if_neg (by omega), if_neg (by omega), if_neg (fun q => by cases q.1)]) (e_g1 he0 (by omega) (by omega)) (e_wrd (by rw [cw_up_eq]; rfl) (by show p_lw (x_c m i) < 17; omega) (by omega))
                · show cw_C _ _ [vr x_reader_] (q_m m co hd fi se te re fa (x_P m i) (x_E m i) l dp cl sz) _
                  refine Re_fail hm0 ⟨(q_m_ok hm0), ?_⟩
                  refine And.intro (Or.inl rfl) ?_
                  show Q (some (vi 0)) (q_m m co hd fi se te re (x_P m i) (x_P m i) (x_E m i) l dp cl sz)
                  first
                    | (exfalso; omega)
                    | exact her _ _ _ _ _ _ _ (by rw [p_s0, if_pos (by omega), if_pos (by omega)])
                    | exact her _ _ _ _ _ _ _ (by rw [p_s0, if_neg (by omega), if_neg (by rw [show p_fw false = 8 from rfl, show p_la false = 15 from rfl]; omega)])
                    | exact her _ _ _ _ _ _ _ (by rw [p_s0, if_neg (by omega), if_pos (by rw [show p_fw false = 8 from rfl, show p_la false = 15 from rfl]; omega), if_pos (by omega)])
            · refine br_f (show ¬ ((-1 : Int) ≠ (-1)) by decide) ?_
              refine br_t (show (-1 : Int) = (-1) by decide) ?_
              show cw_C _ _ [vr x_reader_] (q_m m co hd fi se te re fa (x_P m i) (x_E m i) l dp cl sz) _
              refine Re_fail hm0 ⟨(q_m_ok hm0), ?_⟩
              refine And.intro (Or.inl rfl) ?_
              show Q (some (vi 0)) (q_m m co hd fi se te re (x_P m i) (x_P m i) (x_E m i) l dp cl sz)
              first
                | (exfalso; omega)
                | exact her _ _ _ _ _ _ _ (by rw [p_s0, if_pos (by omega), if_pos (by omega)])
                | exact her _ _ _ _ _ _ _ (by rw [p_s0, if_neg (by omega), if_neg (by rw [show p_fw false = 8 from rfl, show p_la false = 15 from rfl]; omega)])
                | exact her _ _ _ _ _ _ _ (by rw [p_s0, if_neg (by omega), if_pos (by rw [show p_fw false = 8 from rfl, show p_la false = 15 from rfl]; omega), if_pos (by omega)])
    · intro d0 dp i l acc co sz hd fi se te re fa cl Q h0 h1 hl0 hl1 hd0 hd8 hz0 hzi he0 hd_ hf hok her
      obtain ⟨d, rfl⟩ : ∃ k, d0 = k + 6 := ⟨d0 - 6, by omega⟩
      have hm : la_ok (q_m m co hd fi se te re fa (x_P m i) (x_E m i) l dp cl sz) := q_m_ok hm0
      have hlt : x_c m i ≠ 0 → i < tk := ltn i h0 h1
      refine la_go_C hm 16 [42] ?_
      refine br_f (show ¬ ((1 : Int) = 0) by decide) ?_
      show cw_C _ _ [vr x_reader_] (q_m m co hd fi se te re fa (x_P m i) (x_E m i) l dp cl sz) _
      refine ih.1 _ dp i l acc co sz hd fi se te re fa cl _ (by omega) (by omega) (by omega) (by omega) (by omega) (by omega) (by omega) (by omega) he0 (by omega) (by omega) (fun (i1 l1 : Int) (D1 : p_D) (co1 : Int → Int) (z1 : Int) (e1 : p_s (x_c m) (x_v m) o f 0 dp i l acc = .ok (i1, l1, D1)) (G1 : e_g co sz co1 z1 i i1) (T1 : e_sg co1 sz z1 l D1) => ⟨(q_m_ok hm0), ?_⟩) (fun (r1 : Int) (co1 : Int → Int) (s1 q1 a1 p1 z1 : Int) (e1 : p_s (x_c m) (x_v m) o f 0 dp i l acc = .error r1) => ⟨(q_m_ok hm0), ?_⟩)
      · have N1 := p_Nok ((p_sN (c := x_c m) (v := x_v m) (o := o) hz f (dp := dp) (i := i) (l := l) (acc := acc) (by omega) (by omega) (by omega) (by omega)).1 (by omega)) e1
        have S1 := N1.2.2.2.2 rfl
        have G11 := G1.1
        have G12 := G1.2.1
        have L1 : x_c m i1 ≠ 0 → i1 < tk := ltn _ (by omega) (by omega)
        refine br_t (show (1 : Int) ≠ 0 by decide) ?_
        refine br_f (show ¬ ((1 : Int) = 0) by decide) ?_
        show cw_C _ _ [vr x_reader_] (q_m m co1 hd fi se te re fa (x_P m i1) (x_E m i1) l1 dp cl z1) _
        refine Re_termSign hm0 hX (fun (a2 : x_c m i1 = 142) => ⟨(q_m_ok hm0), ?_⟩) (fun (a2 : x_c m i1 = 147) => ⟨(q_m_ok hm0), ?_⟩) (fun (a2 : x_c m i1 = 137) => ⟨(q_m_ok hm0), ?_⟩) (fun (a2 : ¬ (x_c m i1 = 142 ∨ x_c m i1 = 147 ∨ x_c m i1 = 137)) => ⟨(q_m_ok hm0), ?_⟩)
        · show cw_R _ _ 42 [vr x_reader_, vi 1, vi 8, vi 0] [] (q_m m co1 hd fi se te re fa (x_P m i1) (x_E m i1) l1 dp cl z1) _
          exact ih.2.2.1 _ dp i1 l1 D1 co1 z1 hd fi se te re fa cl Q sz l 8 0 (by omega) (by omega) (by omega) (by omega) (by omega) (by omega) (by omega) (by omega) G1.2.2.2 (by omega) (by omega) (by omega) (by omega) (by omega) T1 (by unfold e_sr1; omega) (by omega) (by omega) (fun iz lz Dz cz zz ez gz tz => hok iz lz Dz cz zz (by rw [p_s1, e1]; exact ez) (e_gt G1 gz) tz) (fun er c1 s1 q1 a1 p1 z1 ez => her er c1 s1 q1 a1 p1 z1 (by rw [p_s1, e1]; exact ez))
        · show cw_R _ _ 42 [vr x_reader_, vi 1, vi 9, vi 0] [] (q_m m co1 hd fi se te re fa (x_P m i1) (x_E m i1) l1 dp cl z1) _
          exact ih.2.2.1 _ dp i1 l1 D1 co1 z1 hd fi se te re fa cl Q sz l 9 0 (by omega) (by omega) (by omega) (by omega) (by omega) (by omega) (by omega) (by omega) G1.2.2.2 (by omega) (by omega) (by omega) (by omega) (by omega) T1 (by unfold e_sr1; omega) (by omega) (by omega) (fun iz lz Dz cz zz ez gz tz => hok iz lz Dz cz zz (by rw [p_s1, e1]; exact ez) (e_gt G1 gz) tz) (fun er c1 s1 q1 a1 p1 z1 ez => her er c1 s1 q1 a1 p1 z1 (by rw [p_s1, e1]; exact ez))
        · show cw_R _ _ 42 [vr x_reader_, vi 1, vi 10, vi 0] [] (q_m m co1 hd fi se te re fa (x_P m i1) (x_E m i1) l1 dp cl z1) _
          exact ih.2.2.1 _ dp i1 l1 D1 co1 z1 hd fi se te re fa cl Q sz l 10 0 (by omega) (by omega) (by omega) (by omega) (by omega) (by omega) (by omega) (by omega) G1.2.2.2 (by omega) (by omega) (by omega) (by omega) (by omega) T1 (by unfold e_sr1; omega) (by omega) (by omega) (fun iz lz Dz cz zz ez gz tz => hok iz lz Dz cz zz (by rw [p_s1, e1]; exact ez) (e_gt G1 gz) tz) (fun er c1 s1 q1 a1 p1 z1 ez => her er c1 s1 q1 a1 p1 z1 (by rw [p_s1, e1]; exact ez))
        · show cw_R _ _ 42 [vr x_reader_, vi 1, vi (-1), vi 0] [] (q_m m co1 hd fi se te re fa (x_P m i1) (x_E m i1) l1 dp cl z1) _
          exact ih.2.2.1 _ dp i1 l1 D1 co1 z1 hd fi se te re fa cl Q sz l (-1) 0 (by omega) (by omega) (by omega) (by omega) (by omega) (by omega) (by omega) (by omega) G1.2.2.2 (by omega) (by omega) (by omega) (by omega) (by omega) T1 (by unfold e_sr1; omega) (by omega) (by omega) (fun iz lz Dz cz zz ez gz tz => hok iz lz Dz cz zz (by rw [p_s1, e1]; exact ez) (e_gt G1 gz) tz) (fun er c1 s1 q1 a1 p1 z1 ez => her er c1 s1 q1 a1 p1 z1 (by rw [p_s1, e1]; exact ez))
      · refine br_f (show ¬ ((0 : Int) ≠ 0) by decide) ?_
        refine And.intro (Or.inl rfl) ?_
        show Q (some (vi 0)) (q_m m co1 hd fi se te re (x_P m r1) s1 q1 a1 p1 cl z1)
        exact her r1 _ _ _ _ _ _ (by rw [p_s1, e1]; rfl)
    · intro d0 dp i l acc co sz hd fi se te re fa cl Q a0 l0 opv cnt h0 h1 hl0 hl1 hd0 hd8 hz0 hzi he0 hd_ hf ha0 ha1 hll hsg hsr hc0 hci hok her
      obtain ⟨d, rfl⟩ : ∃ k, d0 = k + 6 := ⟨d0 - 6, by omega⟩
      have hm : la_ok (q_m m co hd fi se te re fa (x_P m i) (x_E m i) l dp cl sz) := q_m_ok hm0
      have hlt : x_c m i ≠ 0 → i < tk := ltn i h0 h1
      refine la_go_R hm 30 [42] ?_
      refine And.intro (fun (c1 : 400 ≤ cnt) => ?_) (fun (c1 : ¬ (400 ≤ cnt)) => ?_)
      · have hc9 : x_c m i = 0 := by rw [show i = tk by omega]; exact hz
        have hno : ¬ (x_c m i = 142 ∨ x_c m i = 147 ∨ x_c m i = 137) := by omega
        refine And.intro (Or.inr rfl) ?_
        show Q (some (vi 1)) (q_m m co hd fi se te re fa (x_P m i) (x_E m i) l dp cl sz)
        exact hok _ _ acc _ _ (by rw [p_s2, if_neg hno]) ⟨Int.le_refl _, by omega, fun _ _ => rfl, he0⟩ hsg
      · refine And.intro (fun (c2 : opv = (-1)) => ?_) (fun (c2 : ¬ (opv = (-1))) => ?_)
        · have hno := e_sr1b hsr c2
          refine And.intro (Or.inr rfl) ?_
          show Q (some (vi 1)) (q_m m co hd fi se te re fa (x_P m i) (x_E m i) l dp cl sz)
          exact hok _ _ acc _ _ (by rw [p_s2, if_neg hno]) ⟨Int.le_refl _, by omega, fun _ _ => rfl, he0⟩ hsg
        · have hsa := e_sr1a hsr c2
          have hop16 := hsa.2.1
          have hitk := hlt hsa.2.2.2
          show cw_C _ _ [vr x_reader_] (q_m m co hd fi se te re fa (x_P m i) (x_E m i) l dp cl sz) _
          refine Rt_advance hm0 hX (by omega) ⟨(q_m_ok hm0), ?_⟩
          refine br_f (show ¬ ((1 : Int) = 0) by decide) ?_
          show cw_C _ _ [vr x_reader_] (q_m m co hd fi se te re fa (x_P m (i + 1)) (x_E m (i + 1)) l dp cl sz) _
          refine ih.1 _ dp (i + 1) l acc co sz hd fi se te re fa cl _ (by omega) (by omega) (by omega) (by omega) (by omega) (by omega) (by omega) (by omega) he0 (by omega) (by omega) (fun (i3 l3 : Int) (D3 : p_D) (co3 : Int → Int) (z3 : Int) (e3 : p_s (x_c m) (x_v m) o f 0 dp (i + 1) l acc = .ok (i3, l3, D3)) (G3 : e_g co sz co3 z3 (i + 1) i3) (T3 : e_sg co3 sz z3 l D3) => ⟨(q_m_ok hm0), ?_⟩) (fun (r3 : Int) (co3 : Int → Int) (s3 q3 a3 p3 z3 : Int) (e3 : p_s (x_c m) (x_v m) o f 0 dp (i + 1) l acc = .error r3) => ⟨(q_m_ok hm0), ?_⟩)
          · have N3 := p_Nok ((p_sN (c := x_c m) (v := x_v m) (o := o) hz f (dp := dp) (i := i + 1) (l := l) (acc := acc) (by omega) (by omega) (by omega) (by omega)).1 (by omega)) e3
            have S3 := N3.2.2.2.2 rfl
            have G31 := G3.1
            have G32 := G3.2.1
            have L3 : x_c m i3 ≠ 0 → i3 < tk := ltn _ (by omega) (by omega)
            refine br_t (show (1 : Int) ≠ 0 by decide) ?_
            show cw_C _ _ [vr x_reader_text_, vi opv, vi 0] (q_m m co3 hd fi se te re fa (x_P m i3) (x_E m i3) l3 dp cl z3) _
            refine Te_emit hm0 (by omega) (by omega) (by omega) rfl ⟨(q_m_ok hm0), ?_⟩
            refine br_f (show ¬ ((1 : Int) = 0) by decide) ?_
            show cw_C _ _ [vr x_reader_] (q_m m (cw_up co3 z3 (16 * 0 + opv)) hd fi se te re fa (x_P m i3) (x_E m i3) l3 dp cl (z3 + 1)) _
            refine Re_termSign hm0 hX (fun (a4 : x_c m i3 = 142) => ⟨(q_m_ok hm0), ?_⟩) (fun (a4 : x_c m i3 = 147) => ⟨(q_m_ok hm0), ?_⟩) (fun (a4 : x_c m i3 = 137) => ⟨(q_m_ok hm0), ?_⟩) (fun (a4 : ¬ (x_c m i3 = 142 ∨ x_c m i3 = 147 ∨ x_c m i3 = 137)) => ⟨(q_m_ok hm0), ?_⟩)
            · refine And.intro (show -2147483648 ≤ cnt + 1 ∧ cnt + 1 < 2147483648 by omega) ?_
              show cw_R _ _ 42 [vr x_reader_, vi 1, vi 8, vi (cnt + 1)] [] (q_m m (cw_up co3 z3 (16 * 0 + opv)) hd fi se te re fa (x_P m i3) (x_E m i3) l3 dp cl (z3 + 1)) _
              have LP := e_lp (op := opv) (q := x_c m i) hsg G3 T3 hll ha1 hsa.1 hop16
              exact ih.2.2.1 _ dp i3 l3 (p_bin (x_c m i) acc D3) _ (z3 + 1) hd fi se te re fa cl Q a0 l0 8 (cnt + 1) (by omega) (by omega) (by omega) (by omega) (by omega) (by omega) (by omega) (by omega) LP.1.2.2.2 (by omega) (by omega) (by omega) (by omega) (by omega) LP.2 (by unfold e_sr1; omega) (by omega) (by omega) (fun iz lz Dz cz zz ez gz tz => hok iz lz Dz cz zz (by rw [p_s2, if_pos hsa.2.2.1, e3]; exact ez) (e_gt LP.1 gz) tz) (fun er c1 s1 q1 a1 p1 z1 ez => her er c1 s1 q1 a1 p1 z1 (by rw [p_s2, if_pos hsa.2.2.1, e3]; exact ez))
            · refine And.intro (show -2147483648 ≤ cnt + 1 ∧ cnt + 1 < 2147483648 by omega) ?_
              show cw_R _ _ 42 [vr x_reader_, vi 1, vi 9, vi (cnt + 1)] [] (q_m m (cw_up co3 z3 (16 * 0 + opv)) hd fi se te re fa (x_P m i3) (x_E m i3) l3 dp cl (z3 + 1)) _
              have LP := e_lp (op := opv) (q := x_c m i) hsg G3 T3 hll ha1 hsa.1 hop16
              exact ih.2.2.1 _ dp i3 l3 (p_bin (x_c m i) acc D3) _ (z3 + 1) hd fi se te re fa cl Q a0 l0 9 (cnt + 1) (by omega) (by omega) (by omega) (by omega) (by omega) (by omega) (by omega) (by omega) LP.1.2.2.2 (by omega) (by omega) (by omega) (by omega) (by omega) LP.2 (by unfold e_sr1; omega) (by omega) (by omega) (fun iz lz Dz cz zz ez gz tz => hok iz lz Dz cz zz (by rw [p_s2, if_pos hsa.2.2.1, e3]; exact ez) (e_gt LP.1 gz) tz) (fun er c1 s1 q1 a1 p1 z1 ez => her er c1 s1 q1 a1 p1 z1 (by rw [p_s2, if_pos hsa.2.2.1, e3]; exact ez))
            · refine And.intro (show -2147483648 ≤ cnt + 1 ∧ cnt + 1 < 2147483648 by omega) ?_
              show cw_R _ _ 42 [vr x_reader_, vi 1, vi 10, vi (cnt + 1)] [] (q_m m (cw_up co3 z3 (16 * 0 + opv)) hd fi se te re fa (x_P m i3) (x_E m i3) l3 dp cl (z3 + 1)) _
              have LP := e_lp (op := opv) (q := x_c m i) hsg G3 T3 hll ha1 hsa.1 hop16
              exact ih.2.2.1 _ dp i3 l3 (p_bin (x_c m i) acc D3) _ (z3 + 1) hd fi se te re fa cl Q a0 l0 10 (cnt + 1) (by omega) (by omega) (by omega) (by omega) (by omega) (by omega) (by omega) (by omega) LP.1.2.2.2 (by omega) (by omega) (by omega) (by omega) (by omega) LP.2 (by unfold e_sr1; omega) (by omega) (by omega) (fun iz lz Dz cz zz ez gz tz => hok iz lz Dz cz zz (by rw [p_s2, if_pos hsa.2.2.1, e3]; exact ez) (e_gt LP.1 gz) tz) (fun er c1 s1 q1 a1 p1 z1 ez => her er c1 s1 q1 a1 p1 z1 (by rw [p_s2, if_pos hsa.2.2.1, e3]; exact ez))
            · refine And.intro (show -2147483648 ≤ cnt + 1 ∧ cnt + 1 < 2147483648 by omega) ?_
              show cw_R _ _ 42 [vr x_reader_, vi 1, vi (-1), vi (cnt + 1)] [] (q_m m (cw_up co3 z3 (16 * 0 + opv)) hd fi se te re fa (x_P m i3) (x_E m i3) l3 dp cl (z3 + 1)) _
              have LP := e_lp (op := opv) (q := x_c m i) hsg G3 T3 hll ha1 hsa.1 hop16
              exact ih.2.2.1 _ dp i3 l3 (p_bin (x_c m i) acc D3) _ (z3 + 1) hd fi se te re fa cl Q a0 l0 (-1) (cnt + 1) (by omega) (by omega) (by omega) (by omega) (by omega) (by omega) (by omega) (by omega) LP.1.2.2.2 (by omega) (by omega) (by omega) (by omega) (by omega) LP.2 (by unfold e_sr1; omega) (by omega) (by omega) (fun iz lz Dz cz zz ez gz tz => hok iz lz Dz cz zz (by rw [p_s2, if_pos hsa.2.2.1, e3]; exact ez) (e_gt LP.1 gz) tz) (fun er c1 s1 q1 a1 p1 z1 ez => her er c1 s1 q1 a1 p1 z1 (by rw [p_s2, if_pos hsa.2.2.1, e3]; exact ez))
          · refine br_f (show ¬ ((0 : Int) ≠ 0) by decide) ?_
            refine And.intro (Or.inl rfl) ?_
            show Q (some (vi 0)) (q_m m co3 hd fi se te re (x_P m r3) s3 q3 a3 p3 cl z3)
            exact her r3 _ _ _ _ _ _ (by rw [p_s2, if_pos hsa.2.2.1, e3]; rfl)
    · intro d0 dp i l acc co sz hd fi se te re fa cl Q h0 h1 hl0 hl1 hd0 hd8 hz0 hzi he0 hd_ hf hok her
      obtain ⟨d, rfl⟩ : ∃ k, d0 = k + 7 := ⟨d0 - 7, by omega⟩
      have hm : la_ok (q_m m co hd fi se te re fa (x_P m i) (x_E m i) l dp cl sz) := q_m_ok hm0
      have hlt : x_c m i ≠ 0 → i < tk := ltn i h0 h1
      refine la_go_C hm 16 [42] ?_
      refine br_t (show (0 : Int) = 0 by decide) ?_
      show cw_C _ _ [vr x_reader_, vi 1] (q_m m co hd fi se te re fa (x_P m i) (x_E m i) l dp cl sz) _
      refine ih.2.1 _ dp i l acc co sz hd fi se te re fa cl _ (by omega) (by omega) (by omega) (by omega) (by omega) (by omega) (by omega) (by omega) he0 (by omega) (by omega) (fun (i1 l1 : Int) (D1 : p_D) (co1 : Int → Int) (z1 : Int) (e1 : p_s (x_c m) (x_v m) o f 1 dp i l acc = .ok (i1, l1, D1)) (G1 : e_g co sz co1 z1 i i1) (T1 : e_sg co1 sz z1 l D1) => ⟨(q_m_ok hm0), ?_⟩) (fun (r1 : Int) (co1 : Int → Int) (s1 q1 a1 p1 z1 : Int) (e1 : p_s (x_c m) (x_v m) o f 1 dp i l acc = .error r1) => ⟨(q_m_ok hm0), ?_⟩)
      · have N1 := p_Nok ((p_sN (c := x_c m) (v := x_v m) (o := o) hz f (dp := dp) (i := i) (l := l) (acc := acc) (by omega) (by omega) (by omega) (by omega)).2.1 (by omega)) e1
        have S1 := N1.2.2.2.2 rfl
        have G11 := G1.1
        have G12 := G1.2.1
        have L1 : x_c m i1 ≠ 0 → i1 < tk := ltn _ (by omega) (by omega)
        refine br_t (show (1 : Int) ≠ 0 by decide) ?_
        refine br_t (show (0 : Int) = 0 by decide) ?_
        show cw_C _ _ [vr x_reader_] (q_m m co1 hd fi se te re fa (x_P m i1) (x_E m i1) l1 dp cl z1) _
        refine Re_sumSign hm0 hX (fun (a2 : x_c m i1 = 143) => ⟨(q_m_ok hm0), ?_⟩) (fun (a2 : x_c m i1 = 145) => ⟨(q_m_ok hm0), ?_⟩) (fun (a2 : ¬ (x_c m i1 = 143 ∨ x_c m i1 = 145)) => ⟨(q_m_ok hm0), ?_⟩)
        · show cw_R _ _ 42 [vr x_reader_, vi 0, vi 6, vi 0] [] (q_m m co1 hd fi se te re fa (x_P m i1) (x_E m i1) l1 dp cl z1) _
          exact ih.2.2.2.2 _ dp i1 l1 D1 co1 z1 hd fi se te re fa cl Q sz l 6 0 (by omega) (by omega) (by omega) (by omega) (by omega) (by omega) (by omega) (by omega) G1.2.2.2 (by omega) (by omega) (by omega) (by omega) (by omega) T1 (by unfold e_sr2; omega) (by omega) (by omega) (fun iz lz Dz cz zz ez gz tz => hok iz lz Dz cz zz (by rw [p_s3, e1]; exact ez) (e_gt G1 gz) tz) (fun er c1 s1 q1 a1 p1 z1 ez => her er c1 s1 q1 a1 p1 z1 (by rw [p_s3, e1]; exact ez))
        · show cw_R _ _ 42 [vr x_reader_, vi 0, vi 7, vi 0] [] (q_m m co1 hd fi se te re fa (x_P m i1) (x_E m i1) l1 dp cl z1) _
          exact ih.2.2.2.2 _ dp i1 l1 D1 co1 z1 hd fi se te re fa cl Q sz l 7 0 (by omega) (by omega) (by omega) (by omega) (by omega) (by omega) (by omega) (by omega) G1.2.2.2 (by omega) (by omega) (by omega) (by omega) (by omega) T1 (by unfold e_sr2; omega) (by omega) (by omega) (fun iz lz Dz cz zz ez gz tz => hok iz lz Dz cz zz (by rw [p_s3, e1]; exact ez) (e_gt G1 gz) tz) (fun er c1 s1 q1 a1 p1 z1 ez => her er c1 s1 q1 a1 p1 z1 (by rw [p_s3, e1]; exact ez))
        · show cw_R _ _ 42 [vr x_reader_, vi 0, vi (-1), vi 0] [] (q_m m co1 hd fi se te re fa (x_P m i1) (x_E m i1) l1 dp cl z1) _
          exact ih.2.2.2.2 _ dp i1 l1 D1 co1 z1 hd fi se te re fa cl Q sz l (-1) 0 (by omega) (by omega) (by omega) (by omega) (by omega) (by omega) (by omega) (by omega) G1.2.2.2 (by omega) (by omega) (by omega) (by omega) (by omega) T1 (by unfold e_sr2; omega) (by omega) (by omega) (fun iz lz Dz cz zz ez gz tz => hok iz lz Dz cz zz (by rw [p_s3, e1]; exact ez) (e_gt G1 gz) tz) (fun er c1 s1 q1 a1 p1 z1 ez => her er c1 s1 q1 a1 p1 z1 (by rw [p_s3, e1]; exact ez))
      · refine br_f (show ¬ ((0 : Int) ≠ 0) by decide) ?_
        refine And.intro (Or.inl rfl) ?_
        show Q (some (vi 0)) (q_m m co1 hd fi se te re (x_P m r1) s1 q1 a1 p1 cl z1)
        exact her r1 _ _ _ _ _ _ (by rw [p_s3, e1]; rfl)
    · intro d0 dp i l acc co sz hd fi se te re fa cl Q a0 l0 opv cnt h0 h1 hl0 hl1 hd0 hd8 hz0 hzi he0 hd_ hf ha0 ha1 hll hsg hsr hc0 hci hok her
      obtain ⟨d, rfl⟩ : ∃ k, d0 = k + 7 := ⟨d0 - 7, by omega⟩
      have hm : la_ok (q_m m co hd fi se te re fa (x_P m i) (x_E m i) l dp cl sz) := q_m_ok hm0
      have hlt : x_c m i ≠ 0 → i < tk := ltn i h0 h1
      refine la_go_R hm 30 [42] ?_
      refine And.intro (fun (c1 : 400 ≤ cnt) => ?_) (fun (c1 : ¬ (400 ≤ cnt)) => ?_)
      · have hc9 : x_c m i = 0 := by rw [show i = tk by omega]; exact hz
        have hno : ¬ (x_c m i = 143 ∨ x_c m i = 145) := by omega
        refine And.intro (Or.inr rfl) ?_
        show Q (some (vi 1)) (q_m m co hd fi se te re fa (x_P m i) (x_E m i) l dp cl sz)
        exact hok _ _ acc _ _ (by rw [p_s4, if_neg hno]) ⟨Int.le_refl _, by omega, fun _ _ => rfl, he0⟩ hsg
      · refine And.intro (fun (c2 : opv = (-1)) => ?_) (fun (c2 : ¬ (opv = (-1))) => ?_)
        · have hno := e_sr2b hsr c2
          refine And.intro (Or.inr rfl) ?_
          show Q (some (vi 1)) (q_m m co hd fi se te re fa (x_P m i) (x_E m i) l dp cl sz)
          exact hok _ _ acc _ _ (by rw [p_s4, if_neg hno]) ⟨Int.le_refl _, by omega, fun _ _ => rfl, he0⟩ hsg
        · have hsa := e_sr2a hsr c2
          have hop16 := hsa.2.1
          have hitk := hlt hsa.2.2.2
          show cw_C _ _ [vr x_reader_] (q_m m co hd fi se te re fa (x_P m i) (x_E m i) l dp cl sz) _
          refine Rt_advance hm0 hX (by omega) ⟨(q_m_ok hm0), ?_⟩
          refine br_t (show (0 : Int) = 0 by decide) ?_
          show cw_C _ _ [vr x_reader_, vi 1] (q_m m co hd fi se te re fa (x_P m (i + 1)) (x_E m (i + 1)) l dp cl sz) _
          refine ih.2.1 _ dp (i + 1) l acc co sz hd fi se te re fa cl _ (by omega) (by omega) (by omega) (by omega) (by omega) (by omega) (by omega) (by omega) he0 (by omega) (by omega) (fun (i3 l3 : Int) (D3 : p_D) (co3 : Int → Int) (z3 : Int) (e3 : p_s (x_c m) (x_v m) o f 1 dp (i + 1) l acc = .ok (i3, l3, D3)) (G3 : e_g co sz co3 z3 (i + 1) i3) (T3 : e_sg co3 sz z3 l D3) => ⟨(q_m_ok hm0), ?_⟩) (fun (r3 : Int) (co3 : Int → Int) (s3 q3 a3 p3 z3 : Int) (e3 : p_s (x_c m) (x_v m) o f 1 dp (i + 1) l acc = .error r3) => ⟨(q_m_ok hm0), ?_⟩)
          · have N3 := p_Nok ((p_sN (c := x_c m) (v := x_v m) (o := o) hz f (dp := dp) (i := i + 1) (l := l) (acc := acc) (by omega) (by omega) (by omega) (by omega)).2.1 (by omega)) e3
            have S3 := N3.2.2.2.2 rfl
            have G31 := G3.1
            have G32 := G3.2.1
            have L3 : x_c m i3 ≠ 0 → i3 < tk := ltn _ (by omega) (by omega)
            refine br_t (show (1 : Int) ≠ 0 by decide) ?_
            show cw_C _ _ [vr x_reader_text_, vi opv, vi 0] (q_m m co3 hd fi se te re fa (x_P m i3) (x_E m i3) l3 dp cl z3) _
            refine Te_emit hm0 (by omega) (by omega) (by omega) rfl ⟨(q_m_ok hm0), ?_⟩
            refine br_t (show (0 : Int) = 0 by decide) ?_
            show cw_C _ _ [vr x_reader_] (q_m m (cw_up co3 z3 (16 * 0 + opv)) hd fi se te re fa (x_P m i3) (x_E m i3) l3 dp cl (z3 + 1)) _
            refine Re_sumSign hm0 hX (fun (a4 : x_c m i3 = 143) => ⟨(q_m_ok hm0), ?_⟩) (fun (a4 : x_c m i3 = 145) => ⟨(q_m_ok hm0), ?_⟩) (fun (a4 : ¬ (x_c m i3 = 143 ∨ x_c m i3 = 145)) => ⟨(q_m_ok hm0), ?_⟩)
            · refine And.intro (show -2147483648 ≤ cnt + 1 ∧ cnt + 1 < 2147483648 by omega) ?_
              show cw_R _ _ 42 [vr x_reader_, vi 0, vi 6, vi (cnt + 1)] [] (q_m m (cw_up co3 z3 (16 * 0 + opv)) hd fi se te re fa (x_P m i3) (x_E m i3) l3 dp cl (z3 + 1)) _
              have LP := e_lp (op := opv) (q := x_c m i) hsg G3 T3 hll ha1 hsa.1 hop16
              exact ih.2.2.2.2 _ dp i3 l3 (p_bin (x_c m i) acc D3) _ (z3 + 1) hd fi se te re fa cl Q a0 l0 6 (cnt + 1) (by omega) (by omega) (by omega) (by omega) (by omega) (by omega) (by omega) (by omega) LP.1.2.2.2 (by omega) (by omega) (by omega) (by omega) (by omega) LP.2 (by unfold e_sr2; omega) (by omega) (by omega) (fun iz lz Dz cz zz ez gz tz => hok iz lz Dz cz zz (by rw [p_s4, if_pos hsa.2.2.1, e3]; exact ez) (e_gt LP.1 gz) tz) (fun er c1 s1 q1 a1 p1 z1 ez => her er c1 s1 q1 a1 p1 z1 (by rw [p_s4, if_pos hsa.2.2.1, e3]; exact ez))
            · refine And.intro (show -2147483648 ≤ cnt + 1 ∧ cnt + 1 < 2147483648 by omega) ?_
              show cw_R _ _ 42 [vr x_reader_, vi 0, vi 7, vi (cnt + 1)] [] (q_m m (cw_up co3 z3 (16 * 0 + opv)) hd fi se te re fa (x_P m i3) (x_E m i3) l3 dp cl (z3 + 1)) _
              have LP := e_lp (op := opv) (q := x_c m i) hsg G3 T3 hll ha1 hsa.1 hop16
              exact ih.2.2.2.2 _ dp i3 l3 (p_bin (x_c m i) acc D3) _ (z3 + 1) hd fi se te re fa cl Q a0 l0 7 (cnt + 1) (by omega) (by omega) (by omega) (by omega) (by omega) (by omega) (by omega) (by omega) LP.1.2.2.2 (by omega) (by omega) (by omega) (by omega) (by omega) LP.2 (by unfold e_sr2; omega) (by omega) (by omega) (fun iz lz Dz cz zz ez gz tz => hok iz lz Dz cz zz (by rw [p_s4, if_pos hsa.2.2.1, e3]; exact ez) (e_gt LP.1 gz) tz) (fun er c1 s1 q1 a1 p1 z1 ez => her er c1 s1 q1 a1 p1 z1 (by rw [p_s4, if_pos hsa.2.2.1, e3]; exact ez))
            · refine And.intro (show -2147483648 ≤ cnt + 1 ∧ cnt + 1 < 2147483648 by omega) ?_
              show cw_R _ _ 42 [vr x_reader_, vi 0, vi (-1), vi (cnt + 1)] [] (q_m m (cw_up co3 z3 (16 * 0 + opv)) hd fi se te re fa (x_P m i3) (x_E m i3) l3 dp cl (z3 + 1)) _
              have LP := e_lp (op := opv) (q := x_c m i) hsg G3 T3 hll ha1 hsa.1 hop16
              exact ih.2.2.2.2 _ dp i3 l3 (p_bin (x_c m i) acc D3) _ (z3 + 1) hd fi se te re fa cl Q a0 l0 (-1) (cnt + 1) (by omega) (by omega) (by omega) (by omega) (by omega) (by omega) (by omega) (by omega) LP.1.2.2.2 (by omega) (by omega) (by omega) (by omega) (by omega) LP.2 (by unfold e_sr2; omega) (by omega) (by omega) (fun iz lz Dz cz zz ez gz tz => hok iz lz Dz cz zz (by rw [p_s4, if_pos hsa.2.2.1, e3]; exact ez) (e_gt LP.1 gz) tz) (fun er c1 s1 q1 a1 p1 z1 ez => her er c1 s1 q1 a1 p1 z1 (by rw [p_s4, if_pos hsa.2.2.1, e3]; exact ez))
          · refine br_f (show ¬ ((0 : Int) ≠ 0) by decide) ?_
            refine And.intro (Or.inl rfl) ?_
            show Q (some (vi 0)) (q_m m co3 hd fi se te re (x_P m r3) s3 q3 a3 p3 cl z3)
            exact her r3 _ _ _ _ _ _ (by rw [p_s4, if_pos hsa.2.2.1, e3]; rfl)
