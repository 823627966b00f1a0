/-! The class reads tests (wip/whole/tools/m78.py). -/
theorem e_ap {co co1 : Int → Int} {a0 sz z1 l0 l i i1 : Int} {A D : p_D} (hs : e_sg co a0 sz l0 A) (hg : e_g (cw_up co sz 4) (sz + 1) co1 z1 (i + 1) i1) (hS : e_sg co1 (sz + 1) z1 l D) (hl : l0 ≤ l) (ha : a0 ≤ sz) (hz : 0 ≤ sz ∧ z1 ≤ 400) : e_g co sz (cw_up co1 sz (16 * z1 + co1 sz % 16)) z1 i i1 ∧ e_sg (cw_up co1 sz (16 * z1 + co1 sz % 16)) a0 z1 l0 (p_and A D) := by
  have g1 := hg.1
  have g2 := hg.2.1
  have e : co1 sz = 4 := by rw [hg.2.2.1 sz (by omega), cw_up_eq]
  refine ⟨⟨by omega, by omega, fun j hj => by rw [cw_up_ne (by omega), hg.2.2.1 j (by omega), cw_up_ne (by omega)], fun j h0 h1 => ?_⟩, ?_⟩
  · by_cases q : j = sz
    · rw [q, cw_up_eq]; omega
    · rw [cw_up_ne q]; exact hg.2.2.2 j h0 h1
  · refine e_an (p := sz) (e_sgc hs (fun j a b => by rw [cw_up_ne (by omega), hg.2.2.1 j (by omega), cw_up_ne (by omega)])) (e_sgc hS (fun j a b => cw_up_ne (by omega))) hl ha g1 ?_
    rw [cw_up_eq]; omega
theorem e_aq {co co1 : Int → Int} {a0 sz z1 l0 l i i1 : Int} {A D : p_D} (hs : e_sg co a0 sz l0 A) (hg : e_g (cw_up co sz 5) (sz + 1) co1 z1 (i + 1) i1) (hS : e_sg co1 (sz + 1) z1 l D) (hl : l0 ≤ l) (ha : a0 ≤ sz) (hz : 0 ≤ sz ∧ z1 ≤ 400) : e_g co sz (cw_up co1 sz (16 * z1 + co1 sz % 16)) z1 i i1 ∧ e_sg (cw_up co1 sz (16 * z1 + co1 sz % 16)) a0 z1 l0 (p_or A D) := by
  have g1 := hg.1
  have g2 := hg.2.1
  have e : co1 sz = 5 := by rw [hg.2.2.1 sz (by omega), cw_up_eq]
  refine ⟨⟨by omega, by omega, fun j hj => by rw [cw_up_ne (by omega), hg.2.2.1 j (by omega), cw_up_ne (by omega)], fun j h0 h1 => ?_⟩, ?_⟩
  · by_cases q : j = sz
    · rw [q, cw_up_eq]; omega
    · rw [cw_up_ne q]; exact hg.2.2.2 j h0 h1
  · refine e_or (p := sz) (e_sgc hs (fun j a b => by rw [cw_up_ne (by omega), hg.2.2.1 j (by omega), cw_up_ne (by omega)])) (e_sgc hS (fun j a b => cw_up_ne (by omega))) hl ha g1 ?_
    rw [cw_up_eq]; omega
theorem e_cp {co co1 co2 : Int → Int} {sz z1 z2 l l1 i i1 i2 op q : Int} {A B : p_D} (g1 : e_g co sz co1 z1 i i1) (h1 : e_sg co1 sz z1 l A) (g2 : e_g co1 z1 co2 z2 (i1 + 1) i2) (h2 : e_sg co2 z1 z2 l1 B) (hl : l + 1 ≤ l1) (hop : e_co op q) : e_g co sz (cw_up co2 z2 op) (z2 + 1) i i2 ∧ e_sg (cw_up co2 z2 op) sz (z2 + 1) l (p_cmp q A B) := by
  have a1 := g1.1
  have a2 := g1.2.1
  have a3 := g2.1
  have a4 := g2.2.1
  have ho : 0 ≤ op ∧ op < 16 := by unfold e_co at hop; omega
  refine ⟨⟨by omega, by omega, fun j hj => by rw [cw_up_ne (by omega), g2.2.2.1 j (by omega), g1.2.2.1 j hj], e_okup g2.2.2.2 (by omega)⟩, ?_⟩
  exact e_cm (e_sgc h1 (fun j a b => by rw [cw_up_ne (by omega), g2.2.2.1 j b])) (e_sgc h2 (fun j a b => cw_up_ne (by omega))) hl a1 a3 cw_up_eq hop
theorem e_np {co co1 : Int → Int} {sz z1 l i i1 : Int} {A : p_D} (g1 : e_g co sz co1 z1 i i1) (h1 : e_sg co1 sz z1 l A) : e_g co sz (cw_up co1 z1 3) (z1 + 1) (i - 1) i1 ∧ e_sg (cw_up co1 z1 3) sz (z1 + 1) l (p_not A) := by
  have a1 := g1.1
  have a2 := g1.2.1
  refine ⟨⟨by omega, by omega, fun j hj => by rw [cw_up_ne (by omega), g1.2.2.1 j hj], e_okup g1.2.2.2 (by omega)⟩, ?_⟩
  exact e_nt (e_sgc h1 (fun j a b => cw_up_ne (by omega))) a1 cw_up_eq
set_option maxHeartbeats 8000000 in
theorem Re_T {m : cw_M} (hm0 : la_ok m) {tk : Int} (hX : X_h m tk) {o : Bool} (hlaw : m x_reader_ 4 = if o = true then 0 else 1) : ∀ (f : Nat), (∀ (d : Nat) (dp i l : Int) (acc : p_D) (co : Int → Int) (sz : Int) (hd fi se te re : Int → Int) (fa cl : Int) (Q : Option cw_V → cw_M → Prop) (ng : Bool) (cnt : Int), 0 ≤ i → i ≤ tk → 0 ≤ l → l ≤ 50 → 0 ≤ dp → dp ≤ 8 → 0 ≤ sz → sz ≤ i → e_ok co sz → 32 - 3 * dp ≤ d → 4 + 5 * (tk - i) ≤ f → 0 ≤ cnt → cnt ≤ i → sz + (if ng = true then 1 else 0) ≤ i → (∀ i1 l1 D co1 sz1, p_t (x_c m) (x_v m) o f 0 dp i l acc ng = .ok (i1, l1, D) → e_g co sz co1 sz1 (i - (if ng = true then 1 else 0)) i1 → e_sg co1 sz sz1 l D → Q (some (vi 1)) (q_m m co1 hd fi se te re fa (x_P m i1) (x_E m i1) l1 dp cl sz1)) → (∀ er co1 st1 sp1 pa1 op1 sz1, p_t (x_c m) (x_v m) o f 0 dp i l acc ng = .error er → Q (some (vi 0)) (q_m m co1 hd fi se te re (x_P m er) st1 sp1 pa1 op1 cl sz1)) → cw_R d k_Re_plain 4 [vr x_reader_, vi (if ng = true then 1 else 0), vi cnt] [] (q_m m co hd fi se te re fa (x_P m i) (x_E m i) l dp cl sz) Q) ∧ (∀ (d : Nat) (dp i l : Int) (acc : p_D) (co : Int → Int) (sz : Int) (hd fi se te re : Int → Int) (fa cl : Int) (Q : Option cw_V → cw_M → Prop) (ng : Bool), 0 ≤ i → i ≤ tk → 0 ≤ l → l ≤ 50 → 0 ≤ dp → dp ≤ 8 → 0 ≤ sz → sz ≤ i → e_ok co sz → 33 - 3 * dp ≤ d → 5 + 5 * (tk - i) ≤ f → (∀ i1 l1 D co1 sz1, p_t (x_c m) (x_v m) o f 1 dp i l acc ng = .ok (i1, l1, D) → e_g co sz co1 sz1 i i1 → e_sg co1 sz sz1 l D → Q (some (vi 1)) (q_m m co1 hd fi se te re fa (x_P m i1) (x_E m i1) l1 dp cl sz1)) → (∀ er co1 st1 sp1 pa1 op1 sz1, p_t (x_c m) (x_v m) o f 1 dp i l acc ng = .error er → Q (some (vi 0)) (q_m m co1 hd fi se te re (x_P m er) st1 sp1 pa1 op1 cl sz1)) → cw_C d k_Re_test [vr x_reader_, vi 1] (q_m m co hd fi se te re fa (x_P m i) (x_E m i) l dp cl sz) Q) ∧ (∀ (d : Nat) (dp i l : Int) (acc : p_D) (co : Int → Int) (sz : Int) (hd fi se te re : Int → Int) (fa cl : Int) (Q : Option cw_V → cw_M → Prop) (ng : Bool) (a0 l0 cnt : Int) (w4 : cw_V), 0 ≤ i → i ≤ tk → 0 ≤ l → l ≤ 50 → 0 ≤ dp → dp ≤ 8 → 0 ≤ sz → sz ≤ i → e_ok co sz → 33 - 3 * dp ≤ d → 1 + 5 * (tk - i) ≤ f → 0 ≤ a0 → a0 ≤ sz → l0 ≤ l → e_sg co a0 sz l0 acc → 0 ≤ cnt → cnt ≤ i → (∀ i1 l1 D co1 sz1, p_t (x_c m) (x_v m) o f 2 dp i l acc ng = .ok (i1, l1, D) → e_g co sz co1 sz1 i i1 → e_sg co1 a0 sz1 l0 D → Q (some (vi 1)) (q_m m co1 hd fi se te re fa (x_P m i1) (x_E m i1) l1 dp cl sz1)) → (∀ er co1 st1 sp1 pa1 op1 sz1, p_t (x_c m) (x_v m) o f 2 dp i l acc ng = .error er → Q (some (vi 0)) (q_m m co1 hd fi se te re (x_P m er) st1 sp1 pa1 op1 cl sz1)) → cw_R d k_Re_test 38 [vr x_reader_, vi 1, vr 4194316, vi cnt, w4] [] (q_m m co hd fi se te re fa (x_P m i) (x_E m i) l dp cl sz) Q) ∧ (∀ (d : Nat) (dp i l : Int) (acc : p_D) (co : Int → Int) (sz : Int) (hd fi se te re : Int → Int) (fa cl : Int) (Q : Option cw_V → cw_M → Prop) (ng : Bool), 0 ≤ i → i ≤ tk → 0 ≤ l → l ≤ 50 → 0 ≤ dp → dp ≤ 8 → 0 ≤ sz → sz ≤ i → e_ok co sz → 34 - 3 * dp ≤ d → 6 + 5 * (tk - i) ≤ f → (∀ i1 l1 D co1 sz1, p_t (x_c m) (x_v m) o f 3 dp i l acc ng = .ok (i1, l1, D) → e_g co sz co1 sz1 i i1 → e_sg co1 sz sz1 l D → Q (some (vi 1)) (q_m m co1 hd fi se te re fa (x_P m i1) (x_E m i1) l1 dp cl sz1)) → (∀ er co1 st1 sp1 pa1 op1 sz1, p_t (x_c m) (x_v m) o f 3 dp i l acc ng = .error er → Q (some (vi 0)) (q_m m co1 hd fi se te re (x_P m er) st1 sp1 pa1 op1 cl sz1)) → cw_C d k_Re_test [vr x_reader_, vi 0] (q_m m co hd fi se te re fa (x_P m i) (x_E m i) l dp cl sz) Q) ∧ (∀ (d : Nat) (dp i l : Int) (acc : p_D) (co : Int → Int) (sz : Int) (hd fi se te re : Int → Int) (fa cl : Int) (Q : Option cw_V → cw_M → Prop) (ng : Bool) (a0 l0 cnt : Int) (w4 : cw_V), 0 ≤ i → i ≤ tk → 0 ≤ l → l ≤ 50 → 0 ≤ dp → dp ≤ 8 → 0 ≤ sz → sz ≤ i → e_ok co sz → 34 - 3 * dp ≤ d → 1 + 5 * (tk - i) ≤ f → 0 ≤ a0 → a0 ≤ sz → l0 ≤ l → e_sg co a0 sz l0 acc → 0 ≤ cnt → cnt ≤ i → (∀ i1 l1 D co1 sz1, p_t (x_c m) (x_v m) o f 4 dp i l acc ng = .ok (i1, l1, D) → e_g co sz co1 sz1 i i1 → e_sg co1 a0 sz1 l0 D → Q (some (vi 1)) (q_m m co1 hd fi se te re fa (x_P m i1) (x_E m i1) l1 dp cl sz1)) → (∀ er co1 st1 sp1 pa1 op1 sz1, p_t (x_c m) (x_v m) o f 4 dp i l acc ng = .error er → Q (some (vi 0)) (q_m m co1 hd fi se te re (x_P m er) st1 sp1 pa1 op1 cl sz1)) → cw_R d k_Re_test 38 [vr x_reader_, vi 0, vr 5242892, vi cnt, w4] [] (q_m m co hd fi se te re fa (x_P m i) (x_E m i) l dp cl sz) Q)
  | 0 => ⟨fun d dp i l acc co sz hd fi se te re fa cl Q ng cnt a1 a2 a3 a4 a5 a6 a7 a8 a9 a10 a11 => by omega, fun d dp i l acc co sz hd fi se te re fa cl Q ng a1 a2 a3 a4 a5 a6 a7 a8 a9 a10 a11 => by omega, fun d dp i l acc co sz hd fi se te re fa cl Q ng a0 l0 cnt w4 a1 a2 a3 a4 a5 a6 a7 a8 a9 a10 a11 => by omega, fun d dp i l acc co sz hd fi se te re fa cl Q ng a1 a2 a3 a4 a5 a6 a7 a8 a9 a10 a11 => by omega, fun d dp i l acc co sz hd fi se te re fa cl Q ng a0 l0 cnt w4 a1 a2 a3 a4 a5 a6 a7 a8 a9 a10 a11 => by omega⟩
  | f + 1 => by
    have ih := Re_T hm0 hX hlaw f
    have ihs := Re_S hm0 hX hlaw f
    have hz : x_c m tk = 0 := k_Cz hX.2.2.2
    have tkn : 0 ≤ tk ∧ tk ≤ 400 := ⟨hX.2.2.2.1.1, by have := hX.2.2.2.1.2; have := hX.2.1; omega⟩
    have ltn : ∀ z, 0 ≤ z → z ≤ tk → x_c m z ≠ 0 → z < tk := fun z _ _ q => by
      by_cases e : z = tk
      · rw [e] at q; exact absurd hz q
      · omega
    have plain : ∀ (d : Nat) (dp i l : Int) (acc : p_D) (co : Int → Int) (sz : Int) (hd fi se te re : Int → Int) (fa cl : Int) (Q : Option cw_V → cw_M → Prop) (ng : Bool), 0 ≤ i → i ≤ tk → 0 ≤ l → l ≤ 50 → 0 ≤ dp → dp ≤ 8 → 0 ≤ sz → sz ≤ i → e_ok co sz → 32 - 3 * dp ≤ d → 4 + 5 * (tk - i) ≤ f → (∀ i1 l1 D co1 sz1, p_t (x_c m) (x_v m) o f 0 dp i l acc false = .ok (i1, l1, D) → e_g co sz co1 sz1 i i1 → e_sg co1 sz sz1 l D → Q (some (vi 1)) (q_m m co1 hd fi se te re fa (x_P m i1) (x_E m i1) l1 dp cl sz1)) → (∀ er co1 st1 sp1 pa1 op1 sz1, p_t (x_c m) (x_v m) o f 0 dp i l acc false = .error er → Q (some (vi 0)) (q_m m co1 hd fi se te re (x_P m er) st1 sp1 pa1 op1 cl sz1)) → cw_C d k_Re_plain [vr x_reader_] (q_m m co hd fi se te re fa (x_P m i) (x_E m i) l dp cl sz) Q := by
      intro d dp i l acc co sz hd fi se te re fa cl Q ng h0 h1 hl0 hl1 hd0 hd8 hz0 hzi he0 hd_ hf hok her
      have hm : la_ok (q_m m co hd fi se te re fa (x_P m i) (x_E m i) l dp cl sz) := q_m_ok hm0
      refine la_go_C hm 7 [4] ?_
      show cw_R _ _ 4 [vr x_reader_, vi 0, vi 0] [] (q_m m co hd fi se te re fa (x_P m i) (x_E m i) l dp cl sz) _
      exact ih.1 _ dp i l acc co sz hd fi se te re fa cl Q false 0 (by omega) (by omega) (by omega) (by omega) (by omega) (by omega) (by omega) (by omega) he0 (by omega) (by omega) (by omega) (by omega) (by show sz + 0 ≤ i; omega) (fun iz lz Dz cz zz ez gz tz => hok iz lz Dz cz zz ez (e_gw gz (by show iz - (i - 0) ≤ iz - i; omega)) tz) her
    refine ⟨?_, ?_, ?_, ?_, ?_⟩
    · intro d0 dp i l acc co sz hd fi se te re fa cl Q ng cnt h0 h1 hl0 hl1 hd0 hd8 hz0 hzi he0 hd_ hf hc0 hci hsn hok her
      obtain ⟨d, rfl⟩ : ∃ k, d0 = k + 8 := ⟨d0 - 8, by omega⟩
      have hm : la_ok (q_m m co hd fi se te re fa (x_P m i) (x_E m i) l dp cl sz) := q_m_ok hm0
      have hlt : x_c m i ≠ 0 → i < tk := ltn i h0 h1
      have hin : x_c m i = 7 ∨ x_c m i = 140 → i < tk := fun q => hlt (by omega)
      cases ng with
      | true =>
        have hsn : sz + 1 ≤ i := hsn
        show cw_R _ _ 4 [vr x_reader_, vi 1, vi cnt] [] _ _
        refine la_go_R hm 58 [4] ?_
        refine And.intro (fun (c1 : 400 ≤ cnt) => ?_) (fun (c1 : ¬ (400 ≤ cnt)) => ?_)
        · have hc9 : x_c m i = 0 := by rw [show i = tk by omega]; exact hz
          show cw_C _ _ [vr x_reader_, vi 40] (q_m m co hd fi se te re fa (x_P m i) (x_E m i) l dp cl sz) _
          refine Rt_isSign hm0 hX (by decide) (by decide) (by decide) rfl (fun (a2 : x_c m i = 140) => ⟨hm, ?_⟩) (fun (a2 : x_c m i ≠ 140) => ⟨hm, ?_⟩)
          · refine br_f (show ¬ ((1 : Int) = 0) by decide) ?_
            refine And.intro (fun (c3 : dp < 8) => ?_) (fun (c3 : ¬ (dp < 8)) => ?_)
            · refine And.intro (show -2147483648 ≤ dp + 1 ∧ dp + 1 < 2147483648 by omega) ?_
              have hm4 : la_ok (cw_put (q_m m co hd fi se te re fa (x_P m i) (x_E m i) l dp cl sz) x_reader_ 8 (dp + 1)) := la_put hm (by decide) (Or.inl rfl)
              show cw_C _ _ [vr x_reader_] (cw_put (q_m m co hd fi se te re fa (x_P m i) (x_E m i) l dp cl sz) x_reader_ 8 (dp + 1)) _
              rw [q_m_fop]
              have hm5 : la_ok (q_m m co hd fi se te re fa (x_P m i) (x_E m i) l (dp + 1) cl sz) := q_m_ok hm0
              refine Rt_advance hm0 hX (by omega) ⟨(q_m_ok hm0), ?_⟩
              show cw_C _ _ [vr x_reader_, vi 0] (q_m m co hd fi se te re fa (x_P m (i + 1)) (x_E m (i + 1)) l (dp + 1) cl sz) _
              refine ih.2.2.2.1 _ (dp + 1) (i + 1) l acc co sz hd fi se te re fa cl _ false (by omega) (by omega) (by omega) (by omega) (by omega) (by omega) (by omega) (by omega) he0 (by omega) (by omega) (fun (i6 l6 : Int) (D6 : p_D) (co6 : Int → Int) (z6 : Int) (e6 : p_t (x_c m) (x_v m) o f 3 (dp + 1) (i + 1) l acc false = .ok (i6, l6, D6)) (G6 : e_g co sz co6 z6 (i + 1) i6) (T6 : e_sg co6 sz z6 l D6) => ⟨(q_m_ok hm0), ?_⟩) (fun (r6 : Int) (co6 : Int → Int) (s6 q6 a6 p6 z6 : Int) (e6 : p_t (x_c m) (x_v m) o f 3 (dp + 1) (i + 1) l acc false = .error r6) => ⟨(q_m_ok hm0), ?_⟩)
              · have N6 := p_Nok ((p_tN (c := x_c m) (v := x_v m) (o := o) hz f (dp := dp + 1) (i := i + 1) (l := l) (acc := acc) (ng := false) (by omega) (by omega) (by omega) (by omega)).2.2.2.1 (by omega)) e6
                have S6 := N6.2.2.2.2 rfl
                have G61 := G6.1
                have G62 := G6.2.1
                have L6 : x_c m i6 ≠ 0 → i6 < tk := ltn _ (by omega) (by omega)
                refine br_t (show (1 : Int) ≠ 0 by decide) ?_
                show cw_C _ _ [vr x_reader_, vi 41] (q_m m co6 hd fi se te re fa (x_P m i6) (x_E m i6) l6 (dp + 1) cl z6) _
                refine Rt_isSign hm0 hX (by decide) (by decide) (by decide) rfl (fun (a7 : x_c m i6 = 141) => ⟨(q_m_ok hm0), ?_⟩) (fun (a7 : x_c m i6 ≠ 141) => ⟨(q_m_ok hm0), ?_⟩)
                · refine br_t (show (1 : Int) ≠ 0 by decide) ?_
                  refine And.intro (show -2147483648 ≤ (dp + 1) - 1 ∧ (dp + 1) - 1 < 2147483648 by omega) ?_
                  have hm8 : la_ok (cw_put (q_m m co6 hd fi se te re fa (x_P m i6) (x_E m i6) l6 (dp + 1) cl z6) x_reader_ 8 ((dp + 1) - 1)) := la_put (q_m_ok hm0) (by decide) (Or.inl rfl)
                  show cw_C _ _ [vr x_reader_] (cw_put (q_m m co6 hd fi se te re fa (x_P m i6) (x_E m i6) l6 (dp + 1) cl z6) x_reader_ 8 ((dp + 1) - 1)) _
                  rw [q_m_fop]
                  have hm9 : la_ok (q_m m co6 hd fi se te re fa (x_P m i6) (x_E m i6) l6 ((dp + 1) - 1) cl z6) := q_m_ok hm0
                  refine Rt_advance hm0 hX (by omega) ⟨(q_m_ok hm0), ?_⟩
                  refine br_f (show ¬ ((1 : Int) = 0) by decide) ?_
                  show cw_C _ _ [vr x_reader_text_, vi 3, vi 0] (q_m m co6 hd fi se te re fa (x_P m (i6 + 1)) (x_E m (i6 + 1)) l6 ((dp + 1) - 1) cl z6) _
                  refine Te_emit hm0 (by omega) (by omega) (by omega) rfl ⟨(q_m_ok hm0), ?_⟩
                  refine And.intro (Or.inr rfl) ?_
                  show Q (some (vi 1)) (q_m m (cw_up co6 z6 (3)) hd fi se te re fa (x_P m (i6 + 1)) (x_E m (i6 + 1)) l6 ((dp + 1) - 1) cl (z6 + 1))
                  rw [show dp + 1 - 1 = dp by omega]
                  have NP := e_np G6 T6
                  exact hok _ _ (p_not D6) _ _ (by rw [p_t0, if_neg (by omega), if_pos (by omega), if_neg (by omega), e6]; show (if _ then _ else _) = _; rw [if_pos (by omega)]; rfl) (e_gw NP.1 (by show _ ≤ _ - (i - 1); omega)) NP.2
                · refine br_f (show ¬ ((0 : Int) ≠ 0) by decide) ?_
                  show cw_C _ _ [vr x_reader_] (q_m m co6 hd fi se te re fa (x_P m i6) (x_E m i6) l6 (dp + 1) cl z6) _
                  refine Re_fail hm0 ⟨(q_m_ok hm0), ?_⟩
                  refine And.intro (Or.inl rfl) ?_
                  show Q (some (vi 0)) (q_m m co6 hd fi se te re (x_P m i6) (x_P m i6) (x_E m i6) l6 (dp + 1) cl z6)
                  exact her _ _ _ _ _ _ _ (by rw [p_t0, if_neg (by omega), if_pos (by omega), if_neg (by omega), e6]; show (if _ then _ else _) = _; rw [if_neg (by omega)])
              · refine br_f (show ¬ ((0 : Int) ≠ 0) by decide) ?_
                refine And.intro (Or.inl rfl) ?_
                show Q (some (vi 0)) (q_m m co6 hd fi se te re (x_P m r6) s6 q6 a6 p6 cl z6)
                exact her r6 _ _ _ _ _ _ (by rw [p_t0, if_neg (by omega), if_pos (by omega), if_neg (by omega), e6]; rfl)
            · show cw_C _ _ [vr x_reader_] (q_m m co hd fi se te re fa (x_P m i) (x_E m i) l dp cl sz) _
              refine Re_fail hm0 ⟨(q_m_ok hm0), ?_⟩
              refine And.intro (Or.inl rfl) ?_
              show Q (some (vi 0)) (q_m m co hd fi se te re (x_P m i) (x_P m i) (x_E m i) l dp cl sz)
              exact her _ _ _ _ _ _ _ (by rw [p_t0, if_neg (by omega), if_pos (by omega), if_pos (by omega)])
          · refine br_t (show (0 : Int) = 0 by decide) ?_
            show cw_C _ _ [vr x_reader_, vi 0] (q_m m co hd fi se te re fa (x_P m i) (x_E m i) l dp cl sz) _
            refine ihs.2.2.2.1 _ dp i l acc co sz hd fi se te re fa cl _ (by omega) (by omega) (by omega) (by omega) (by omega) (by omega) (by omega) (by omega) he0 (by omega) (by omega) (fun (i10 l10 : Int) (D10 : p_D) (co10 : Int → Int) (z10 : Int) (e10 : p_s (x_c m) (x_v m) o f 3 dp i l acc = .ok (i10, l10, D10)) (G10 : e_g co sz co10 z10 i i10) (T10 : e_sg co10 sz z10 l D10) => ⟨(q_m_ok hm0), ?_⟩) (fun (r10 : Int) (co10 : Int → Int) (s10 q10 a10 p10 z10 : Int) (e10 : p_s (x_c m) (x_v m) o f 3 dp i l acc = .error r10) => ⟨(q_m_ok hm0), ?_⟩)
            · have N10 := p_Nok ((p_sN (c := x_c m) (v := x_v m) (o := o) hz f (dp := dp) (i := i) (l := l) (acc := acc) (by omega) (by omega) (by omega) (by omega)).2.2.2.1 (by omega)) e10
              have S10 := N10.2.2.2.2 rfl
              have G101 := G10.1
              have G102 := G10.2.1
              have L10 : x_c m i10 ≠ 0 → i10 < tk := ltn _ (by omega) (by omega)
              refine br_t (show (1 : Int) ≠ 0 by decide) ?_
              show cw_C _ _ [vr x_reader_, vi 60] (q_m m co10 hd fi se te re fa (x_P m i10) (x_E m i10) l10 dp cl z10) _
              refine Rt_isSign hm0 hX (by decide) (by decide) (by decide) rfl (fun (a11 : x_c m i10 = 160) => ⟨(q_m_ok hm0), ?_⟩) (fun (a11 : x_c m i10 ≠ 160) => ⟨(q_m_ok hm0), ?_⟩)
              · refine br_f (show ¬ ((1 : Int) = 0) by decide) ?_
                refine br_t (show (11 : Int) ≠ 13 by decide) ?_
                show cw_C _ _ [vr x_reader_] (q_m m co10 hd fi se te re fa (x_P m i10) (x_E m i10) l10 dp cl z10) _
                refine Rt_advance hm0 hX (by omega) ⟨(q_m_ok hm0), ?_⟩
                show cw_C _ _ [vr x_reader_, vi 0] (q_m m co10 hd fi se te re fa (x_P m (i10 + 1)) (x_E m (i10 + 1)) l10 dp cl z10) _
                refine ihs.2.2.2.1 _ dp (i10 + 1) l10 acc co10 z10 hd fi se te re fa cl _ (by omega) (by omega) (by omega) (by omega) (by omega) (by omega) (by omega) (by omega) G10.2.2.2 (by omega) (by omega) (fun (i12 l12 : Int) (D12 : p_D) (co12 : Int → Int) (z12 : Int) (e12 : p_s (x_c m) (x_v m) o f 3 dp (i10 + 1) l10 acc = .ok (i12, l12, D12)) (G12 : e_g co10 z10 co12 z12 (i10 + 1) i12) (T12 : e_sg co12 z10 z12 l10 D12) => ⟨(q_m_ok hm0), ?_⟩) (fun (r12 : Int) (co12 : Int → Int) (s12 q12 a12 p12 z12 : Int) (e12 : p_s (x_c m) (x_v m) o f 3 dp (i10 + 1) l10 acc = .error r12) => ⟨(q_m_ok hm0), ?_⟩)
                · have N12 := p_Nok ((p_sN (c := x_c m) (v := x_v m) (o := o) hz f (dp := dp) (i := i10 + 1) (l := l10) (acc := acc) (by omega) (by omega) (by omega) (by omega)).2.2.2.1 (by omega)) e12
                  have S12 := N12.2.2.2.2 rfl
                  have G121 := G12.1
                  have G122 := G12.2.1
                  have L12 : x_c m i12 ≠ 0 → i12 < tk := ltn _ (by omega) (by omega)
                  refine br_t (show (1 : Int) ≠ 0 by decide) ?_
                  show cw_C _ _ [vr x_reader_text_, vi 11, vi 0] (q_m m co12 hd fi se te re fa (x_P m i12) (x_E m i12) l12 dp cl z12) _
                  refine Te_emit hm0 (by omega) (by omega) (by omega) rfl ⟨(q_m_ok hm0), ?_⟩
                  refine br_f (show ¬ ((1 : Int) = 0) by decide) ?_
                  show cw_C _ _ [vr x_reader_text_, vi 3, vi 0] (q_m m (cw_up co12 z12 (11)) hd fi se te re fa (x_P m i12) (x_E m i12) l12 dp cl (z12 + 1)) _
                  refine Te_emit hm0 (by omega) (by omega) (by omega) rfl ⟨(q_m_ok hm0), ?_⟩
                  refine And.intro (Or.inr rfl) ?_
                  show Q (some (vi 1)) (q_m m (cw_up (cw_up co12 z12 (11)) (z12 + 1) (3)) hd fi se te re fa (x_P m i12) (x_E m i12) l12 dp cl ((z12 + 1) + 1))
                  have CP := e_cp (op := 11) (q := x_c m i10) G10 T10 G12 T12 (by omega) (by unfold e_co; omega)
                  have NP := e_np CP.1 CP.2
                  exact hok _ _ (p_not (p_cmp (x_c m i10) D10 D12)) _ _ (by rw [p_t0, if_neg (by omega), if_neg (by omega), e10]; show (if _ then _ else _) = _; rw [if_pos (by omega), e12]; rfl) (e_gw NP.1 (by show _ ≤ _ - (i - 1); omega)) NP.2
                · refine br_f (show ¬ ((0 : Int) ≠ 0) by decide) ?_
                  refine And.intro (Or.inl rfl) ?_
                  show Q (some (vi 0)) (q_m m co12 hd fi se te re (x_P m r12) s12 q12 a12 p12 cl z12)
                  exact her r12 _ _ _ _ _ _ (by rw [p_t0, if_neg (by omega), if_neg (by omega), e10]; show (if _ then _ else _) = _; rw [if_pos (by omega), e12]; rfl)
              · refine br_t (show (0 : Int) = 0 by decide) ?_
                show cw_C _ _ [vr x_reader_, vi 62] (q_m m co10 hd fi se te re fa (x_P m i10) (x_E m i10) l10 dp cl z10) _
                refine Rt_isSign hm0 hX (by decide) (by decide) (by decide) rfl (fun (a13 : x_c m i10 = 162) => ⟨(q_m_ok hm0), ?_⟩) (fun (a13 : x_c m i10 ≠ 162) => ⟨(q_m_ok hm0), ?_⟩)
                · refine br_f (show ¬ ((1 : Int) = 0) by decide) ?_
                  refine br_t (show (12 : Int) ≠ 13 by decide) ?_
                  show cw_C _ _ [vr x_reader_] (q_m m co10 hd fi se te re fa (x_P m i10) (x_E m i10) l10 dp cl z10) _
                  refine Rt_advance hm0 hX (by omega) ⟨(q_m_ok hm0), ?_⟩
                  show cw_C _ _ [vr x_reader_, vi 0] (q_m m co10 hd fi se te re fa (x_P m (i10 + 1)) (x_E m (i10 + 1)) l10 dp cl z10) _
                  refine ihs.2.2.2.1 _ dp (i10 + 1) l10 acc co10 z10 hd fi se te re fa cl _ (by omega) (by omega) (by omega) (by omega) (by omega) (by omega) (by omega) (by omega) G10.2.2.2 (by omega) (by omega) (fun (i14 l14 : Int) (D14 : p_D) (co14 : Int → Int) (z14 : Int) (e14 : p_s (x_c m) (x_v m) o f 3 dp (i10 + 1) l10 acc = .ok (i14, l14, D14)) (G14 : e_g co10 z10 co14 z14 (i10 + 1) i14) (T14 : e_sg co14 z10 z14 l10 D14) => ⟨(q_m_ok hm0), ?_⟩) (fun (r14 : Int) (co14 : Int → Int) (s14 q14 a14 p14 z14 : Int) (e14 : p_s (x_c m) (x_v m) o f 3 dp (i10 + 1) l10 acc = .error r14) => ⟨(q_m_ok hm0), ?_⟩)
                  · have N14 := p_Nok ((p_sN (c := x_c m) (v := x_v m) (o := o) hz f (dp := dp) (i := i10 + 1) (l := l10) (acc := acc) (by omega) (by omega) (by omega) (by omega)).2.2.2.1 (by omega)) e14
                    have S14 := N14.2.2.2.2 rfl
                    have G141 := G14.1
                    have G142 := G14.2.1
                    have L14 : x_c m i14 ≠ 0 → i14 < tk := ltn _ (by omega) (by omega)
                    refine br_t (show (1 : Int) ≠ 0 by decide) ?_
                    show cw_C _ _ [vr x_reader_text_, vi 12, vi 0] (q_m m co14 hd fi se te re fa (x_P m i14) (x_E m i14) l14 dp cl z14) _
                    refine Te_emit hm0 (by omega) (by omega) (by omega) rfl ⟨(q_m_ok hm0), ?_⟩
                    refine br_f (show ¬ ((1 : Int) = 0) by decide) ?_
                    show cw_C _ _ [vr x_reader_text_, vi 3, vi 0] (q_m m (cw_up co14 z14 (12)) hd fi se te re fa (x_P m i14) (x_E m i14) l14 dp cl (z14 + 1)) _
                    refine Te_emit hm0 (by omega) (by omega) (by omega) rfl ⟨(q_m_ok hm0), ?_⟩
                    refine And.intro (Or.inr rfl) ?_
                    show Q (some (vi 1)) (q_m m (cw_up (cw_up co14 z14 (12)) (z14 + 1) (3)) hd fi se te re fa (x_P m i14) (x_E m i14) l14 dp cl ((z14 + 1) + 1))
                    have CP := e_cp (op := 12) (q := x_c m i10) G10 T10 G14 T14 (by omega) (by unfold e_co; omega)
                    have NP := e_np CP.1 CP.2
                    exact hok _ _ (p_not (p_cmp (x_c m i10) D10 D14)) _ _ (by rw [p_t0, if_neg (by omega), if_neg (by omega), e10]; show (if _ then _ else _) = _; rw [if_pos (by omega), e14]; rfl) (e_gw NP.1 (by show _ ≤ _ - (i - 1); omega)) NP.2
                  · refine br_f (show ¬ ((0 : Int) ≠ 0) by decide) ?_
                    refine And.intro (Or.inl rfl) ?_
                    show Q (some (vi 0)) (q_m m co14 hd fi se te re (x_P m r14) s14 q14 a14 p14 cl z14)
                    exact her r14 _ _ _ _ _ _ (by rw [p_t0, if_neg (by omega), if_neg (by omega), e10]; show (if _ then _ else _) = _; rw [if_pos (by omega), e14]; rfl)
                · refine br_t (show (0 : Int) = 0 by decide) ?_
                  refine br_f (show ¬ ((13 : Int) ≠ 13) by decide) ?_
                  show cw_C _ _ [vr x_reader_, vi 61] (q_m m co10 hd fi se te re fa (x_P m i10) (x_E m i10) l10 dp cl z10) _
                  refine Rt_isSign hm0 hX (by decide) (by decide) (by decide) rfl (fun (a15 : x_c m i10 = 161) => ⟨(q_m_ok hm0), ?_⟩) (fun (a15 : x_c m i10 ≠ 161) => ⟨(q_m_ok hm0), ?_⟩)
                  · refine br_t (show (1 : Int) ≠ 0 by decide) ?_
                    show cw_C _ _ [vr x_reader_] (q_m m co10 hd fi se te re fa (x_P m i10) (x_E m i10) l10 dp cl z10) _
                    refine Rt_advance hm0 hX (by omega) ⟨(q_m_ok hm0), ?_⟩
                    show cw_C _ _ [vr x_reader_, vi 0] (q_m m co10 hd fi se te re fa (x_P m (i10 + 1)) (x_E m (i10 + 1)) l10 dp cl z10) _
                    refine ihs.2.2.2.1 _ dp (i10 + 1) l10 acc co10 z10 hd fi se te re fa cl _ (by omega) (by omega) (by omega) (by omega) (by omega) (by omega) (by omega) (by omega) G10.2.2.2 (by omega) (by omega) (fun (i16 l16 : Int) (D16 : p_D) (co16 : Int → Int) (z16 : Int) (e16 : p_s (x_c m) (x_v m) o f 3 dp (i10 + 1) l10 acc = .ok (i16, l16, D16)) (G16 : e_g co10 z10 co16 z16 (i10 + 1) i16) (T16 : e_sg co16 z10 z16 l10 D16) => ⟨(q_m_ok hm0), ?_⟩) (fun (r16 : Int) (co16 : Int → Int) (s16 q16 a16 p16 z16 : Int) (e16 : p_s (x_c m) (x_v m) o f 3 dp (i10 + 1) l10 acc = .error r16) => ⟨(q_m_ok hm0), ?_⟩)
                    · have N16 := p_Nok ((p_sN (c := x_c m) (v := x_v m) (o := o) hz f (dp := dp) (i := i10 + 1) (l := l10) (acc := acc) (by omega) (by omega) (by omega) (by omega)).2.2.2.1 (by omega)) e16
                      have S16 := N16.2.2.2.2 rfl
                      have G161 := G16.1
                      have G162 := G16.2.1
                      have L16 : x_c m i16 ≠ 0 → i16 < tk := ltn _ (by omega) (by omega)
                      refine br_t (show (1 : Int) ≠ 0 by decide) ?_
                      show cw_C _ _ [vr x_reader_text_, vi 13, vi 0] (q_m m co16 hd fi se te re fa (x_P m i16) (x_E m i16) l16 dp cl z16) _
                      refine Te_emit hm0 (by omega) (by omega) (by omega) rfl ⟨(q_m_ok hm0), ?_⟩
                      refine br_f (show ¬ ((1 : Int) = 0) by decide) ?_
                      show cw_C _ _ [vr x_reader_text_, vi 3, vi 0] (q_m m (cw_up co16 z16 (13)) hd fi se te re fa (x_P m i16) (x_E m i16) l16 dp cl (z16 + 1)) _
                      refine Te_emit hm0 (by omega) (by omega) (by omega) rfl ⟨(q_m_ok hm0), ?_⟩
                      refine And.intro (Or.inr rfl) ?_
                      show Q (some (vi 1)) (q_m m (cw_up (cw_up co16 z16 (13)) (z16 + 1) (3)) hd fi se te re fa (x_P m i16) (x_E m i16) l16 dp cl ((z16 + 1) + 1))
                      have CP := e_cp (op := 13) (q := x_c m i10) G10 T10 G16 T16 (by omega) (by unfold e_co; omega)
                      have NP := e_np CP.1 CP.2
                      exact hok _ _ (p_not (p_cmp (x_c m i10) D10 D16)) _ _ (by rw [p_t0, if_neg (by omega), if_neg (by omega), e10]; show (if _ then _ else _) = _; rw [if_pos (by omega), e16]; rfl) (e_gw NP.1 (by show _ ≤ _ - (i - 1); omega)) NP.2
                    · refine br_f (show ¬ ((0 : Int) ≠ 0) by decide) ?_
                      refine And.intro (Or.inl rfl) ?_
                      show Q (some (vi 0)) (q_m m co16 hd fi se te re (x_P m r16) s16 q16 a16 p16 cl z16)
                      exact her r16 _ _ _ _ _ _ (by rw [p_t0, if_neg (by omega), if_neg (by omega), e10]; show (if _ then _ else _) = _; rw [if_pos (by omega), e16]; rfl)
                  · refine br_f (show ¬ ((0 : Int) ≠ 0) by decide) ?_
                    show cw_C _ _ [vr x_reader_] (q_m m co10 hd fi se te re fa (x_P m i10) (x_E m i10) l10 dp cl z10) _
                    refine Re_fail hm0 ⟨(q_m_ok hm0), ?_⟩
                    refine And.intro (Or.inl rfl) ?_
                    show Q (some (vi 0)) (q_m m co10 hd fi se te re (x_P m i10) (x_P m i10) (x_E m i10) l10 dp cl z10)
                    exact her _ _ _ _ _ _ _ (by rw [p_t0, if_neg (by omega), if_neg (by omega), e10]; show (if _ then _ else _) = _; rw [if_neg (by omega)])
            · refine br_f (show ¬ ((0 : Int) ≠ 0) by decide) ?_
              refine And.intro (Or.inl rfl) ?_
              show Q (some (vi 0)) (q_m m co10 hd fi se te re (x_P m r10) s10 q10 a10 p10 cl z10)
              exact her r10 _ _ _ _ _ _ (by rw [p_t0, if_neg (by omega), if_neg (by omega), e10]; rfl)
        · show cw_C _ _ [vr x_reader_, vr 10485772] (q_m m co hd fi se te re fa (x_P m i) (x_E m i) l dp cl sz) _
          refine Rt_word6 hm0 hX (fun (a17 : x_c m i = 7) => ⟨hm, ?_⟩) (fun (a17 : ¬ (x_c m i = 7)) => ⟨hm, ?_⟩)
          · refine br_f (show ¬ ((0 : Int) = (-1)) by decide) ?_
            refine br_t (show (1 : Int) ≠ 0 by decide) ?_
            show cw_C _ _ [vr x_reader_] (q_m m co hd fi se te re fa (x_P m i) (x_E m i) l dp cl sz) _
            refine Rt_advance hm0 hX (by omega) ⟨(q_m_ok hm0), ?_⟩
            refine And.intro (show -2147483648 ≤ cnt + 1 ∧ cnt + 1 < 2147483648 by omega) ?_
            show cw_R _ _ 4 [vr x_reader_, vi 0, vi (cnt + 1)] [] (q_m m co hd fi se te re fa (x_P m (i + 1)) (x_E m (i + 1)) l dp cl sz) _
            exact ih.1 _ dp (i + 1) l acc co sz hd fi se te re fa cl Q false (cnt + 1) (by omega) (by omega) (by omega) (by omega) (by omega) (by omega) (by omega) (by omega) he0 (by omega) (by omega) (by omega) (by omega) (by show sz + 0 ≤ i + 1; omega) (fun iz lz Dz cz zz ez gz tz => hok iz lz Dz cz zz (by rw [p_t0, if_pos (by omega)]; exact ez) (e_gw gz (by show iz - (i + 1 - 0) ≤ iz - (i - 1); omega)) tz) (fun er c1 s1 q1 a1 p1 z1 ez => her er c1 s1 q1 a1 p1 z1 (by rw [p_t0, if_pos (by omega)]; exact ez))
          · refine br_t (show (-1 : Int) = (-1) by decide) ?_
            show cw_C _ _ [vr x_reader_, vi 40] (q_m m co hd fi se te re fa (x_P m i) (x_E m i) l dp cl sz) _
            refine Rt_isSign hm0 hX (by decide) (by decide) (by decide) rfl (fun (a18 : x_c m i = 140) => ⟨hm, ?_⟩) (fun (a18 : x_c m i ≠ 140) => ⟨hm, ?_⟩)
            · refine br_f (show ¬ ((1 : Int) = 0) by decide) ?_
              refine And.intro (fun (c19 : dp < 8) => ?_) (fun (c19 : ¬ (dp < 8)) => ?_)
              · refine And.intro (show -2147483648 ≤ dp + 1 ∧ dp + 1 < 2147483648 by omega) ?_
                have hm20 : la_ok (cw_put (q_m m co hd fi se te re fa (x_P m i) (x_E m i) l dp cl sz) x_reader_ 8 (dp + 1)) := la_put hm (by decide) (Or.inl rfl)
                show cw_C _ _ [vr x_reader_] (cw_put (q_m m co hd fi se te re fa (x_P m i) (x_E m i) l dp cl sz) x_reader_ 8 (dp + 1)) _
                rw [q_m_fop]
                have hm21 : la_ok (q_m m co hd fi se te re fa (x_P m i) (x_E m i) l (dp + 1) cl sz) := q_m_ok hm0
                refine Rt_advance hm0 hX (by omega) ⟨(q_m_ok hm0), ?_⟩
                show cw_C _ _ [vr x_reader_, vi 0] (q_m m co hd fi se te re fa (x_P m (i + 1)) (x_E m (i + 1)) l (dp + 1) cl sz) _
                refine ih.2.2.2.1 _ (dp + 1) (i + 1) l acc co sz hd fi se te re fa cl _ false (by omega) (by omega) (by omega) (by omega) (by omega) (by omega) (by omega) (by omega) he0 (by omega) (by omega) (fun (i22 l22 : Int) (D22 : p_D) (co22 : Int → Int) (z22 : Int) (e22 : p_t (x_c m) (x_v m) o f 3 (dp + 1) (i + 1) l acc false = .ok (i22, l22, D22)) (G22 : e_g co sz co22 z22 (i + 1) i22) (T22 : e_sg co22 sz z22 l D22) => ⟨(q_m_ok hm0), ?_⟩) (fun (r22 : Int) (co22 : Int → Int) (s22 q22 a22 p22 z22 : Int) (e22 : p_t (x_c m) (x_v m) o f 3 (dp + 1) (i + 1) l acc false = .error r22) => ⟨(q_m_ok hm0), ?_⟩)
                · have N22 := p_Nok ((p_tN (c := x_c m) (v := x_v m) (o := o) hz f (dp := dp + 1) (i := i + 1) (l := l) (acc := acc) (ng := false) (by omega) (by omega) (by omega) (by omega)).2.2.2.1 (by omega)) e22
                  have S22 := N22.2.2.2.2 rfl
                  have G221 := G22.1
                  have G222 := G22.2.1
                  have L22 : x_c m i22 ≠ 0 → i22 < tk := ltn _ (by omega) (by omega)
                  refine br_t (show (1 : Int) ≠ 0 by decide) ?_
                  show cw_C _ _ [vr x_reader_, vi 41] (q_m m co22 hd fi se te re fa (x_P m i22) (x_E m i22) l22 (dp + 1) cl z22) _
                  refine Rt_isSign hm0 hX (by decide) (by decide) (by decide) rfl (fun (a23 : x_c m i22 = 141) => ⟨(q_m_ok hm0), ?_⟩) (fun (a23 : x_c m i22 ≠ 141) => ⟨(q_m_ok hm0), ?_⟩)
                  · refine br_t (show (1 : Int) ≠ 0 by decide) ?_
                    refine And.intro (show -2147483648 ≤ (dp + 1) - 1 ∧ (dp + 1) - 1 < 2147483648 by omega) ?_
                    have hm24 : la_ok (cw_put (q_m m co22 hd fi se te re fa (x_P m i22) (x_E m i22) l22 (dp + 1) cl z22) x_reader_ 8 ((dp + 1) - 1)) := la_put (q_m_ok hm0) (by decide) (Or.inl rfl)
                    show cw_C _ _ [vr x_reader_] (cw_put (q_m m co22 hd fi se te re fa (x_P m i22) (x_E m i22) l22 (dp + 1) cl z22) x_reader_ 8 ((dp + 1) - 1)) _
                    rw [q_m_fop]
                    have hm25 : la_ok (q_m m co22 hd fi se te re fa (x_P m i22) (x_E m i22) l22 ((dp + 1) - 1) cl z22) := q_m_ok hm0
                    refine Rt_advance hm0 hX (by omega) ⟨(q_m_ok hm0), ?_⟩
                    refine br_f (show ¬ ((1 : Int) = 0) by decide) ?_
                    show cw_C _ _ [vr x_reader_text_, vi 3, vi 0] (q_m m co22 hd fi se te re fa (x_P m (i22 + 1)) (x_E m (i22 + 1)) l22 ((dp + 1) - 1) cl z22) _
                    refine Te_emit hm0 (by omega) (by omega) (by omega) rfl ⟨(q_m_ok hm0), ?_⟩
                    refine And.intro (Or.inr rfl) ?_
                    show Q (some (vi 1)) (q_m m (cw_up co22 z22 (3)) hd fi se te re fa (x_P m (i22 + 1)) (x_E m (i22 + 1)) l22 ((dp + 1) - 1) cl (z22 + 1))
                    rw [show dp + 1 - 1 = dp by omega]
                    have NP := e_np G22 T22
                    exact hok _ _ (p_not D22) _ _ (by rw [p_t0, if_neg (by omega), if_pos (by omega), if_neg (by omega), e22]; show (if _ then _ else _) = _; rw [if_pos (by omega)]; rfl) (e_gw NP.1 (by show _ ≤ _ - (i - 1); omega)) NP.2
                  · refine br_f (show ¬ ((0 : Int) ≠ 0) by decide) ?_
                    show cw_C _ _ [vr x_reader_] (q_m m co22 hd fi se te re fa (x_P m i22) (x_E m i22) l22 (dp + 1) cl z22) _
                    refine Re_fail hm0 ⟨(q_m_ok hm0), ?_⟩
                    refine And.intro (Or.inl rfl) ?_
                    show Q (some (vi 0)) (q_m m co22 hd fi se te re (x_P m i22) (x_P m i22) (x_E m i22) l22 (dp + 1) cl z22)
                    exact her _ _ _ _ _ _ _ (by rw [p_t0, if_neg (by omega), if_pos (by omega), if_neg (by omega), e22]; show (if _ then _ else _) = _; rw [if_neg (by omega)])
                · refine br_f (show ¬ ((0 : Int) ≠ 0) by decide) ?_
                  refine And.intro (Or.inl rfl) ?_
                  show Q (some (vi 0)) (q_m m co22 hd fi se te re (x_P m r22) s22 q22 a22 p22 cl z22)
                  exact her r22 _ _ _ _ _ _ (by rw [p_t0, if_neg (by omega), if_pos (by omega), if_neg (by omega), e22]; rfl)
              · show cw_C _ _ [vr x_reader_] (q_m m co hd fi se te re fa (x_P m i) (x_E m i) l dp cl sz) _
                refine Re_fail hm0 ⟨(q_m_ok hm0), ?_⟩
                refine And.intro (Or.inl rfl) ?_
                show Q (some (vi 0)) (q_m m co hd fi se te re (x_P m i) (x_P m i) (x_E m i) l dp cl sz)
                exact her _ _ _ _ _ _ _ (by rw [p_t0, if_neg (by omega), if_pos (by omega), if_pos (by omega)])
            · refine br_t (show (0 : Int) = 0 by decide) ?_
              show cw_C _ _ [vr x_reader_, vi 0] (q_m m co hd fi se te re fa (x_P m i) (x_E m i) l dp cl sz) _
              refine ihs.2.2.2.1 _ dp i l acc co sz hd fi se te re fa cl _ (by omega) (by omega) (by omega) (by omega) (by omega) (by omega) (by omega) (by omega) he0 (by omega) (by omega) (fun (i26 l26 : Int) (D26 : p_D) (co26 : Int → Int) (z26 : Int) (e26 : p_s (x_c m) (x_v m) o f 3 dp i l acc = .ok (i26, l26, D26)) (G26 : e_g co sz co26 z26 i i26) (T26 : e_sg co26 sz z26 l D26) => ⟨(q_m_ok hm0), ?_⟩) (fun (r26 : Int) (co26 : Int → Int) (s26 q26 a26 p26 z26 : Int) (e26 : p_s (x_c m) (x_v m) o f 3 dp i l acc = .error r26) => ⟨(q_m_ok hm0), ?_⟩)
              · have N26 := p_Nok ((p_sN (c := x_c m) (v := x_v m) (o := o) hz f (dp := dp) (i := i) (l := l) (acc := acc) (by omega) (by omega) (by omega) (by omega)).2.2.2.1 (by omega)) e26
                have S26 := N26.2.2.2.2 rfl
                have G261 := G26.1
                have G262 := G26.2.1
                have L26 : x_c m i26 ≠ 0 → i26 < tk := ltn _ (by omega) (by omega)
                refine br_t (show (1 : Int) ≠ 0 by decide) ?_
                show cw_C _ _ [vr x_reader_, vi 60] (q_m m co26 hd fi se te re fa (x_P m i26) (x_E m i26) l26 dp cl z26) _
                refine Rt_isSign hm0 hX (by decide) (by decide) (by decide) rfl (fun (a27 : x_c m i26 = 160) => ⟨(q_m_ok hm0), ?_⟩) (fun (a27 : x_c m i26 ≠ 160) => ⟨(q_m_ok hm0), ?_⟩)
                · refine br_f (show ¬ ((1 : Int) = 0) by decide) ?_
                  refine br_t (show (11 : Int) ≠ 13 by decide) ?_
                  show cw_C _ _ [vr x_reader_] (q_m m co26 hd fi se te re fa (x_P m i26) (x_E m i26) l26 dp cl z26) _
                  refine Rt_advance hm0 hX (by omega) ⟨(q_m_ok hm0), ?_⟩
                  show cw_C _ _ [vr x_reader_, vi 0] (q_m m co26 hd fi se te re fa (x_P m (i26 + 1)) (x_E m (i26 + 1)) l26 dp cl z26) _
                  refine ihs.2.2.2.1 _ dp (i26 + 1) l26 acc co26 z26 hd fi se te re fa cl _ (by omega) (by omega) (by omega) (by omega) (by omega) (by omega) (by omega) (by omega) G26.2.2.2 (by omega) (by omega) (fun (i28 l28 : Int) (D28 : p_D) (co28 : Int → Int) (z28 : Int) (e28 : p_s (x_c m) (x_v m) o f 3 dp (i26 + 1) l26 acc = .ok (i28, l28, D28)) (G28 : e_g co26 z26 co28 z28 (i26 + 1) i28) (T28 : e_sg co28 z26 z28 l26 D28) => ⟨(q_m_ok hm0), ?_⟩) (fun (r28 : Int) (co28 : Int → Int) (s28 q28 a28 p28 z28 : Int) (e28 : p_s (x_c m) (x_v m) o f 3 dp (i26 + 1) l26 acc = .error r28) => ⟨(q_m_ok hm0), ?_⟩)
                  · have N28 := p_Nok ((p_sN (c := x_c m) (v := x_v m) (o := o) hz f (dp := dp) (i := i26 + 1) (l := l26) (acc := acc) (by omega) (by omega) (by omega) (by omega)).2.2.2.1 (by omega)) e28
                    have S28 := N28.2.2.2.2 rfl
                    have G281 := G28.1
                    have G282 := G28.2.1
                    have L28 : x_c m i28 ≠ 0 → i28 < tk := ltn _ (by omega) (by omega)
                    refine br_t (show (1 : Int) ≠ 0 by decide) ?_
                    show cw_C _ _ [vr x_reader_text_, vi 11, vi 0] (q_m m co28 hd fi se te re fa (x_P m i28) (x_E m i28) l28 dp cl z28) _
                    refine Te_emit hm0 (by omega) (by omega) (by omega) rfl ⟨(q_m_ok hm0), ?_⟩
                    refine br_f (show ¬ ((1 : Int) = 0) by decide) ?_
                    show cw_C _ _ [vr x_reader_text_, vi 3, vi 0] (q_m m (cw_up co28 z28 (11)) hd fi se te re fa (x_P m i28) (x_E m i28) l28 dp cl (z28 + 1)) _
                    refine Te_emit hm0 (by omega) (by omega) (by omega) rfl ⟨(q_m_ok hm0), ?_⟩
                    refine And.intro (Or.inr rfl) ?_
                    show Q (some (vi 1)) (q_m m (cw_up (cw_up co28 z28 (11)) (z28 + 1) (3)) hd fi se te re fa (x_P m i28) (x_E m i28) l28 dp cl ((z28 + 1) + 1))
                    have CP := e_cp (op := 11) (q := x_c m i26) G26 T26 G28 T28 (by omega) (by unfold e_co; omega)
                    have NP := e_np CP.1 CP.2
                    exact hok _ _ (p_not (p_cmp (x_c m i26) D26 D28)) _ _ (by rw [p_t0, if_neg (by omega), if_neg (by omega), e26]; show (if _ then _ else _) = _; rw [if_pos (by omega), e28]; rfl) (e_gw NP.1 (by show _ ≤ _ - (i - 1); omega)) NP.2
                  · refine br_f (show ¬ ((0 : Int) ≠ 0) by decide) ?_
                    refine And.intro (Or.inl rfl) ?_
                    show Q (some (vi 0)) (q_m m co28 hd fi se te re (x_P m r28) s28 q28 a28 p28 cl z28)
                    exact her r28 _ _ _ _ _ _ (by rw [p_t0, if_neg (by omega), if_neg (by omega), e26]; show (if _ then _ else _) = _; rw [if_pos (by omega), e28]; rfl)
                · refine br_t (show (0 : Int) = 0 by decide) ?_
                  show cw_C _ _ [vr x_reader_, vi 62] (q_m m co26 hd fi se te re fa (x_P m i26) (x_E m i26) l26 dp cl z26) _
                  refine Rt_isSign hm0 hX (by decide) (by decide) (by decide) rfl (fun (a29 : x_c m i26 = 162) => ⟨(q_m_ok hm0), ?_⟩) (fun (a29 : x_c m i26 ≠ 162) => ⟨(q_m_ok hm0), ?_⟩)
                  · refine br_f (show ¬ ((1 : Int) = 0) by decide) ?_
                    refine br_t (show (12 : Int) ≠ 13 by decide) ?_
                    show cw_C _ _ [vr x_reader_] (q_m m co26 hd fi se te re fa (x_P m i26) (x_E m i26) l26 dp cl z26) _
                    refine Rt_advance hm0 hX (by omega) ⟨(q_m_ok hm0), ?_⟩
                    show cw_C _ _ [vr x_reader_, vi 0] (q_m m co26 hd fi se te re fa (x_P m (i26 + 1)) (x_E m (i26 + 1)) l26 dp cl z26) _
                    refine ihs.2.2.2.1 _ dp (i26 + 1) l26 acc co26 z26 hd fi se te re fa cl _ (by omega) (by omega) (by omega) (by omega) (by omega) (by omega) (by omega) (by omega) G26.2.2.2 (by omega) (by omega) (fun (i30 l30 : Int) (D30 : p_D) (co30 : Int → Int) (z30 : Int) (e30 : p_s (x_c m) (x_v m) o f 3 dp (i26 + 1) l26 acc = .ok (i30, l30, D30)) (G30 : e_g co26 z26 co30 z30 (i26 + 1) i30) (T30 : e_sg co30 z26 z30 l26 D30) => ⟨(q_m_ok hm0), ?_⟩) (fun (r30 : Int) (co30 : Int → Int) (s30 q30 a30 p30 z30 : Int) (e30 : p_s (x_c m) (x_v m) o f 3 dp (i26 + 1) l26 acc = .error r30) => ⟨(q_m_ok hm0), ?_⟩)
                    · have N30 := p_Nok ((p_sN (c := x_c m) (v := x_v m) (o := o) hz f (dp := dp) (i := i26 + 1) (l := l26) (acc := acc) (by omega) (by omega) (by omega) (by omega)).2.2.2.1 (by omega)) e30
                      have S30 := N30.2.2.2.2 rfl
                      have G301 := G30.1
                      have G302 := G30.2.1
                      have L30 : x_c m i30 ≠ 0 → i30 < tk := ltn _ (by omega) (by omega)
                      refine br_t (show (1 : Int) ≠ 0 by decide) ?_
                      show cw_C _ _ [vr x_reader_text_, vi 12, vi 0] (q_m m co30 hd fi se te re fa (x_P m i30) (x_E m i30) l30 dp cl z30) _
                      refine Te_emit hm0 (by omega) (by omega) (by omega) rfl ⟨(q_m_ok hm0), ?_⟩
                      refine br_f (show ¬ ((1 : Int) = 0) by decide) ?_
                      show cw_C _ _ [vr x_reader_text_, vi 3, vi 0] (q_m m (cw_up co30 z30 (12)) hd fi se te re fa (x_P m i30) (x_E m i30) l30 dp cl (z30 + 1)) _
                      refine Te_emit hm0 (by omega) (by omega) (by omega) rfl ⟨(q_m_ok hm0), ?_⟩
                      refine And.intro (Or.inr rfl) ?_
                      show Q (some (vi 1)) (q_m m (cw_up (cw_up co30 z30 (12)) (z30 + 1) (3)) hd fi se te re fa (x_P m i30) (x_E m i30) l30 dp cl ((z30 + 1) + 1))
                      have CP := e_cp (op := 12) (q := x_c m i26) G26 T26 G30 T30 (by omega) (by unfold e_co; omega)
                      have NP := e_np CP.1 CP.2
                      exact hok _ _ (p_not (p_cmp (x_c m i26) D26 D30)) _ _ (by rw [p_t0, if_neg (by omega), if_neg (by omega), e26]; show (if _ then _ else _) = _; rw [if_pos (by omega), e30]; rfl) (e_gw NP.1 (by show _ ≤ _ - (i - 1); omega)) NP.2
                    · refine br_f (show ¬ ((0 : Int) ≠ 0) by decide) ?_
                      refine And.intro (Or.inl rfl) ?_
                      show Q (some (vi 0)) (q_m m co30 hd fi se te re (x_P m r30) s30 q30 a30 p30 cl z30)
                      exact her r30 _ _ _ _ _ _ (by rw [p_t0, if_neg (by omega), if_neg (by omega), e26]; show (if _ then _ else _) = _; rw [if_pos (by omega), e30]; rfl)
                  · refine br_t (show (0 : Int) = 0 by decide) ?_
                    refine br_f (show ¬ ((13 : Int) ≠ 13) by decide) ?_
                    show cw_C _ _ [vr x_reader_, vi 61] (q_m m co26 hd fi se te re fa (x_P m i26) (x_E m i26) l26 dp cl z26) _
                    refine Rt_isSign hm0 hX (by decide) (by decide) (by decide) rfl (fun (a31 : x_c m i26 = 161) => ⟨(q_m_ok hm0), ?_⟩) (fun (a31 : x_c m i26 ≠ 161) => ⟨(q_m_ok hm0), ?_⟩)
                    · refine br_t (show (1 : Int) ≠ 0 by decide) ?_
                      show cw_C _ _ [vr x_reader_] (q_m m co26 hd fi se te re fa (x_P m i26) (x_E m i26) l26 dp cl z26) _
                      refine Rt_advance hm0 hX (by omega) ⟨(q_m_ok hm0), ?_⟩
                      show cw_C _ _ [vr x_reader_, vi 0] (q_m m co26 hd fi se te re fa (x_P m (i26 + 1)) (x_E m (i26 + 1)) l26 dp cl z26) _
                      refine ihs.2.2.2.1 _ dp (i26 + 1) l26 acc co26 z26 hd fi se te re fa cl _ (by omega) (by omega) (by omega) (by omega) (by omega) (by omega) (by omega) (by omega) G26.2.2.2 (by omega) (by omega) (fun (i32 l32 : Int) (D32 : p_D) (co32 : Int → Int) (z32 : Int) (e32 : p_s (x_c m) (x_v m) o f 3 dp (i26 + 1) l26 acc = .ok (i32, l32, D32)) (G32 : e_g co26 z26 co32 z32 (i26 + 1) i32) (T32 : e_sg co32 z26 z32 l26 D32) => ⟨(q_m_ok hm0), ?_⟩) (fun (r32 : Int) (co32 : Int → Int) (s32 q32 a32 p32 z32 : Int) (e32 : p_s (x_c m) (x_v m) o f 3 dp (i26 + 1) l26 acc = .error r32) => ⟨(q_m_ok hm0), ?_⟩)
                      · have N32 := p_Nok ((p_sN (c := x_c m) (v := x_v m) (o := o) hz f (dp := dp) (i := i26 + 1) (l := l26) (acc := acc) (by omega) (by omega) (by omega) (by omega)).2.2.2.1 (by omega)) e32
                        have S32 := N32.2.2.2.2 rfl
                        have G321 := G32.1
                        have G322 := G32.2.1
                        have L32 : x_c m i32 ≠ 0 → i32 < tk := ltn _ (by omega) (by omega)
                        refine br_t (show (1 : Int) ≠ 0 by decide) ?_
                        show cw_C _ _ [vr x_reader_text_, vi 13, vi 0] (q_m m co32 hd fi se te re fa (x_P m i32) (x_E m i32) l32 dp cl z32) _
                        refine Te_emit hm0 (by omega) (by omega) (by omega) rfl ⟨(q_m_ok hm0), ?_⟩
                        refine br_f (show ¬ ((1 : Int) = 0) by decide) ?_
                        show cw_C _ _ [vr x_reader_text_, vi 3, vi 0] (q_m m (cw_up co32 z32 (13)) hd fi se te re fa (x_P m i32) (x_E m i32) l32 dp cl (z32 + 1)) _
                        refine Te_emit hm0 (by omega) (by omega) (by omega) rfl ⟨(q_m_ok hm0), ?_⟩
                        refine And.intro (Or.inr rfl) ?_
                        show Q (some (vi 1)) (q_m m (cw_up (cw_up co32 z32 (13)) (z32 + 1) (3)) hd fi se te re fa (x_P m i32) (x_E m i32) l32 dp cl ((z32 + 1) + 1))
                        have CP := e_cp (op := 13) (q := x_c m i26) G26 T26 G32 T32 (by omega) (by unfold e_co; omega)
                        have NP := e_np CP.1 CP.2
                        exact hok _ _ (p_not (p_cmp (x_c m i26) D26 D32)) _ _ (by rw [p_t0, if_neg (by omega), if_neg (by omega), e26]; show (if _ then _ else _) = _; rw [if_pos (by omega), e32]; rfl) (e_gw NP.1 (by show _ ≤ _ - (i - 1); omega)) NP.2
                      · refine br_f (show ¬ ((0 : Int) ≠ 0) by decide) ?_
                        refine And.intro (Or.inl rfl) ?_
                        show Q (some (vi 0)) (q_m m co32 hd fi se te re (x_P m r32) s32 q32 a32 p32 cl z32)
                        exact her r32 _ _ _ _ _ _ (by rw [p_t0, if_neg (by omega), if_neg (by omega), e26]; show (if _ then _ else _) = _; rw [if_pos (by omega), e32]; rfl)
                    · refine br_f (show ¬ ((0 : Int) ≠ 0) by decide) ?_
                      show cw_C _ _ [vr x_reader_] (q_m m co26 hd fi se te re fa (x_P m i26) (x_E m i26) l26 dp cl z26) _
                      refine Re_fail hm0 ⟨(q_m_ok hm0), ?_⟩
                      refine And.intro (Or.inl rfl) ?_
                      show Q (some (vi 0)) (q_m m co26 hd fi se te re (x_P m i26) (x_P m i26) (x_E m i26) l26 dp cl z26)
                      exact her _ _ _ _ _ _ _ (by rw [p_t0, if_neg (by omega), if_neg (by omega), e26]; show (if _ then _ else _) = _; rw [if_neg (by omega)])
              · refine br_f (show ¬ ((0 : Int) ≠ 0) by decide) ?_
                refine And.intro (Or.inl rfl) ?_
                show Q (some (vi 0)) (q_m m co26 hd fi se te re (x_P m r26) s26 q26 a26 p26 cl z26)
                exact her r26 _ _ _ _ _ _ (by rw [p_t0, if_neg (by omega), if_neg (by omega), e26]; rfl)
      | false =>
        have hsn : sz + 0 ≤ i := hsn
        show cw_R _ _ 4 [vr x_reader_, vi 0, vi cnt] [] _ _
        refine la_go_R hm 52 [4] ?_
        refine And.intro (fun (c1 : 400 ≤ cnt) => ?_) (fun (c1 : ¬ (400 ≤ cnt)) => ?_)
        · have hc9 : x_c m i = 0 := by rw [show i = tk by omega]; exact hz
          show cw_C _ _ [vr x_reader_, vi 40] (q_m m co hd fi se te re fa (x_P m i) (x_E m i) l dp cl sz) _
          refine Rt_isSign hm0 hX (by decide) (by decide) (by decide) rfl (fun (a2 : x_c m i = 140) => ⟨hm, ?_⟩) (fun (a2 : x_c m i ≠ 140) => ⟨hm, ?_⟩)
          · refine br_f (show ¬ ((1 : Int) = 0) by decide) ?_
            refine And.intro (fun (c3 : dp < 8) => ?_) (fun (c3 : ¬ (dp < 8)) => ?_)
            · refine And.intro (show -2147483648 ≤ dp + 1 ∧ dp + 1 < 2147483648 by omega) ?_
              have hm4 : la_ok (cw_put (q_m m co hd fi se te re fa (x_P m i) (x_E m i) l dp cl sz) x_reader_ 8 (dp + 1)) := la_put hm (by decide) (Or.inl rfl)
              show cw_C _ _ [vr x_reader_] (cw_put (q_m m co hd fi se te re fa (x_P m i) (x_E m i) l dp cl sz) x_reader_ 8 (dp + 1)) _
              rw [q_m_fop]
              have hm5 : la_ok (q_m m co hd fi se te re fa (x_P m i) (x_E m i) l (dp + 1) cl sz) := q_m_ok hm0
              refine Rt_advance hm0 hX (by omega) ⟨(q_m_ok hm0), ?_⟩
              show cw_C _ _ [vr x_reader_, vi 0] (q_m m co hd fi se te re fa (x_P m (i + 1)) (x_E m (i + 1)) l (dp + 1) cl sz) _
              refine ih.2.2.2.1 _ (dp + 1) (i + 1) l acc co sz hd fi se te re fa cl _ false (by omega) (by omega) (by omega) (by omega) (by omega) (by omega) (by omega) (by omega) he0 (by omega) (by omega) (fun (i6 l6 : Int) (D6 : p_D) (co6 : Int → Int) (z6 : Int) (e6 : p_t (x_c m) (x_v m) o f 3 (dp + 1) (i + 1) l acc false = .ok (i6, l6, D6)) (G6 : e_g co sz co6 z6 (i + 1) i6) (T6 : e_sg co6 sz z6 l D6) => ⟨(q_m_ok hm0), ?_⟩) (fun (r6 : Int) (co6 : Int → Int) (s6 q6 a6 p6 z6 : Int) (e6 : p_t (x_c m) (x_v m) o f 3 (dp + 1) (i + 1) l acc false = .error r6) => ⟨(q_m_ok hm0), ?_⟩)
              · have N6 := p_Nok ((p_tN (c := x_c m) (v := x_v m) (o := o) hz f (dp := dp + 1) (i := i + 1) (l := l) (acc := acc) (ng := false) (by omega) (by omega) (by omega) (by omega)).2.2.2.1 (by omega)) e6
                have S6 := N6.2.2.2.2 rfl
                have G61 := G6.1
                have G62 := G6.2.1
                have L6 : x_c m i6 ≠ 0 → i6 < tk := ltn _ (by omega) (by omega)
                refine br_t (show (1 : Int) ≠ 0 by decide) ?_
                show cw_C _ _ [vr x_reader_, vi 41] (q_m m co6 hd fi se te re fa (x_P m i6) (x_E m i6) l6 (dp + 1) cl z6) _
                refine Rt_isSign hm0 hX (by decide) (by decide) (by decide) rfl (fun (a7 : x_c m i6 = 141) => ⟨(q_m_ok hm0), ?_⟩) (fun (a7 : x_c m i6 ≠ 141) => ⟨(q_m_ok hm0), ?_⟩)
                · refine br_t (show (1 : Int) ≠ 0 by decide) ?_
                  refine And.intro (show -2147483648 ≤ (dp + 1) - 1 ∧ (dp + 1) - 1 < 2147483648 by omega) ?_
                  have hm8 : la_ok (cw_put (q_m m co6 hd fi se te re fa (x_P m i6) (x_E m i6) l6 (dp + 1) cl z6) x_reader_ 8 ((dp + 1) - 1)) := la_put (q_m_ok hm0) (by decide) (Or.inl rfl)
                  show cw_C _ _ [vr x_reader_] (cw_put (q_m m co6 hd fi se te re fa (x_P m i6) (x_E m i6) l6 (dp + 1) cl z6) x_reader_ 8 ((dp + 1) - 1)) _
                  rw [q_m_fop]
                  have hm9 : la_ok (q_m m co6 hd fi se te re fa (x_P m i6) (x_E m i6) l6 ((dp + 1) - 1) cl z6) := q_m_ok hm0
                  refine Rt_advance hm0 hX (by omega) ⟨(q_m_ok hm0), ?_⟩
                  refine br_t (show (0 : Int) = 0 by decide) ?_
                  refine And.intro (Or.inr rfl) ?_
                  show Q (some (vi 1)) (q_m m co6 hd fi se te re fa (x_P m (i6 + 1)) (x_E m (i6 + 1)) l6 ((dp + 1) - 1) cl z6)
                  rw [show dp + 1 - 1 = dp by omega]
                  exact hok _ _ D6 _ _ (by rw [p_t0, if_neg (by omega), if_pos (by omega), if_neg (by omega), e6]; show (if _ then _ else _) = _; rw [if_pos (by omega)]; rfl) (e_gw G6 (by show _ ≤ _ - (i - 0); omega)) T6
                · refine br_f (show ¬ ((0 : Int) ≠ 0) by decide) ?_
                  show cw_C _ _ [vr x_reader_] (q_m m co6 hd fi se te re fa (x_P m i6) (x_E m i6) l6 (dp + 1) cl z6) _
                  refine Re_fail hm0 ⟨(q_m_ok hm0), ?_⟩
                  refine And.intro (Or.inl rfl) ?_
                  show Q (some (vi 0)) (q_m m co6 hd fi se te re (x_P m i6) (x_P m i6) (x_E m i6) l6 (dp + 1) cl z6)
                  exact her _ _ _ _ _ _ _ (by rw [p_t0, if_neg (by omega), if_pos (by omega), if_neg (by omega), e6]; show (if _ then _ else _) = _; rw [if_neg (by omega)])
              · refine br_f (show ¬ ((0 : Int) ≠ 0) by decide) ?_
                refine And.intro (Or.inl rfl) ?_
                show Q (some (vi 0)) (q_m m co6 hd fi se te re (x_P m r6) s6 q6 a6 p6 cl z6)
                exact her r6 _ _ _ _ _ _ (by rw [p_t0, if_neg (by omega), if_pos (by omega), if_neg (by omega), e6]; rfl)
            · show cw_C _ _ [vr x_reader_] (q_m m co hd fi se te re fa (x_P m i) (x_E m i) l dp cl sz) _
              refine Re_fail hm0 ⟨(q_m_ok hm0), ?_⟩
              refine And.intro (Or.inl rfl) ?_
              show Q (some (vi 0)) (q_m m co hd fi se te re (x_P m i) (x_P m i) (x_E m i) l dp cl sz)
              exact her _ _ _ _ _ _ _ (by rw [p_t0, if_neg (by omega), if_pos (by omega), if_pos (by omega)])
          · refine br_t (show (0 : Int) = 0 by decide) ?_
            show cw_C _ _ [vr x_reader_, vi 0] (q_m m co hd fi se te re fa (x_P m i) (x_E m i) l dp cl sz) _
            refine ihs.2.2.2.1 _ dp i l acc co sz hd fi se te re fa cl _ (by omega) (by omega) (by omega) (by omega) (by omega) (by omega) (by omega) (by omega) he0 (by omega) (by omega) (fun (i10 l10 : Int) (D10 : p_D) (co10 : Int → Int) (z10 : Int) (e10 : p_s (x_c m) (x_v m) o f 3 dp i l acc = .ok (i10, l10, D10)) (G10 : e_g co sz co10 z10 i i10) (T10 : e_sg co10 sz z10 l D10) => ⟨(q_m_ok hm0), ?_⟩) (fun (r10 : Int) (co10 : Int → Int) (s10 q10 a10 p10 z10 : Int) (e10 : p_s (x_c m) (x_v m) o f 3 dp i l acc = .error r10) => ⟨(q_m_ok hm0), ?_⟩)
            · have N10 := p_Nok ((p_sN (c := x_c m) (v := x_v m) (o := o) hz f (dp := dp) (i := i) (l := l) (acc := acc) (by omega) (by omega) (by omega) (by omega)).2.2.2.1 (by omega)) e10
              have S10 := N10.2.2.2.2 rfl
              have G101 := G10.1
              have G102 := G10.2.1
              have L10 : x_c m i10 ≠ 0 → i10 < tk := ltn _ (by omega) (by omega)
              refine br_t (show (1 : Int) ≠ 0 by decide) ?_
              show cw_C _ _ [vr x_reader_, vi 60] (q_m m co10 hd fi se te re fa (x_P m i10) (x_E m i10) l10 dp cl z10) _
              refine Rt_isSign hm0 hX (by decide) (by decide) (by decide) rfl (fun (a11 : x_c m i10 = 160) => ⟨(q_m_ok hm0), ?_⟩) (fun (a11 : x_c m i10 ≠ 160) => ⟨(q_m_ok hm0), ?_⟩)
              · refine br_f (show ¬ ((1 : Int) = 0) by decide) ?_
                refine br_t (show (11 : Int) ≠ 13 by decide) ?_
                show cw_C _ _ [vr x_reader_] (q_m m co10 hd fi se te re fa (x_P m i10) (x_E m i10) l10 dp cl z10) _
                refine Rt_advance hm0 hX (by omega) ⟨(q_m_ok hm0), ?_⟩
                show cw_C _ _ [vr x_reader_, vi 0] (q_m m co10 hd fi se te re fa (x_P m (i10 + 1)) (x_E m (i10 + 1)) l10 dp cl z10) _
                refine ihs.2.2.2.1 _ dp (i10 + 1) l10 acc co10 z10 hd fi se te re fa cl _ (by omega) (by omega) (by omega) (by omega) (by omega) (by omega) (by omega) (by omega) G10.2.2.2 (by omega) (by omega) (fun (i12 l12 : Int) (D12 : p_D) (co12 : Int → Int) (z12 : Int) (e12 : p_s (x_c m) (x_v m) o f 3 dp (i10 + 1) l10 acc = .ok (i12, l12, D12)) (G12 : e_g co10 z10 co12 z12 (i10 + 1) i12) (T12 : e_sg co12 z10 z12 l10 D12) => ⟨(q_m_ok hm0), ?_⟩) (fun (r12 : Int) (co12 : Int → Int) (s12 q12 a12 p12 z12 : Int) (e12 : p_s (x_c m) (x_v m) o f 3 dp (i10 + 1) l10 acc = .error r12) => ⟨(q_m_ok hm0), ?_⟩)
                · have N12 := p_Nok ((p_sN (c := x_c m) (v := x_v m) (o := o) hz f (dp := dp) (i := i10 + 1) (l := l10) (acc := acc) (by omega) (by omega) (by omega) (by omega)).2.2.2.1 (by omega)) e12
                  have S12 := N12.2.2.2.2 rfl
                  have G121 := G12.1
                  have G122 := G12.2.1
                  have L12 : x_c m i12 ≠ 0 → i12 < tk := ltn _ (by omega) (by omega)
                  refine br_t (show (1 : Int) ≠ 0 by decide) ?_
                  show cw_C _ _ [vr x_reader_text_, vi 11, vi 0] (q_m m co12 hd fi se te re fa (x_P m i12) (x_E m i12) l12 dp cl z12) _
                  refine Te_emit hm0 (by omega) (by omega) (by omega) rfl ⟨(q_m_ok hm0), ?_⟩
                  refine br_t (show (0 : Int) = 0 by decide) ?_
                  refine And.intro (Or.inr rfl) ?_
                  show Q (some (vi 1)) (q_m m (cw_up co12 z12 (11)) hd fi se te re fa (x_P m i12) (x_E m i12) l12 dp cl (z12 + 1))
                  have CP := e_cp (op := 11) (q := x_c m i10) G10 T10 G12 T12 (by omega) (by unfold e_co; omega)
                  exact hok _ _ (p_cmp (x_c m i10) D10 D12) _ _ (by rw [p_t0, if_neg (by omega), if_neg (by omega), e10]; show (if _ then _ else _) = _; rw [if_pos (by omega), e12]; rfl) (e_gw CP.1 (by show _ ≤ _ - (i - 0); omega)) CP.2
                · refine br_f (show ¬ ((0 : Int) ≠ 0) by decide) ?_
                  refine And.intro (Or.inl rfl) ?_
                  show Q (some (vi 0)) (q_m m co12 hd fi se te re (x_P m r12) s12 q12 a12 p12 cl z12)
                  exact her r12 _ _ _ _ _ _ (by rw [p_t0, if_neg (by omega), if_neg (by omega), e10]; show (if _ then _ else _) = _; rw [if_pos (by omega), e12]; rfl)
              · refine br_t (show (0 : Int) = 0 by decide) ?_
                show cw_C _ _ [vr x_reader_, vi 62] (q_m m co10 hd fi se te re fa (x_P m i10) (x_E m i10) l10 dp cl z10) _
                refine Rt_isSign hm0 hX (by decide) (by decide) (by decide) rfl (fun (a13 : x_c m i10 = 162) => ⟨(q_m_ok hm0), ?_⟩) (fun (a13 : x_c m i10 ≠ 162) => ⟨(q_m_ok hm0), ?_⟩)
                · refine br_f (show ¬ ((1 : Int) = 0) by decide) ?_
                  refine br_t (show (12 : Int) ≠ 13 by decide) ?_
                  show cw_C _ _ [vr x_reader_] (q_m m co10 hd fi se te re fa (x_P m i10) (x_E m i10) l10 dp cl z10) _
                  refine Rt_advance hm0 hX (by omega) ⟨(q_m_ok hm0), ?_⟩
                  show cw_C _ _ [vr x_reader_, vi 0] (q_m m co10 hd fi se te re fa (x_P m (i10 + 1)) (x_E m (i10 + 1)) l10 dp cl z10) _
                  refine ihs.2.2.2.1 _ dp (i10 + 1) l10 acc co10 z10 hd fi se te re fa cl _ (by omega) (by omega) (by omega) (by omega) (by omega) (by omega) (by omega) (by omega) G10.2.2.2 (by omega) (by omega) (fun (i14 l14 : Int) (D14 : p_D) (co14 : Int → Int) (z14 : Int) (e14 : p_s (x_c m) (x_v m) o f 3 dp (i10 + 1) l10 acc = .ok (i14, l14, D14)) (G14 : e_g co10 z10 co14 z14 (i10 + 1) i14) (T14 : e_sg co14 z10 z14 l10 D14) => ⟨(q_m_ok hm0), ?_⟩) (fun (r14 : Int) (co14 : Int → Int) (s14 q14 a14 p14 z14 : Int) (e14 : p_s (x_c m) (x_v m) o f 3 dp (i10 + 1) l10 acc = .error r14) => ⟨(q_m_ok hm0), ?_⟩)
                  · have N14 := p_Nok ((p_sN (c := x_c m) (v := x_v m) (o := o) hz f (dp := dp) (i := i10 + 1) (l := l10) (acc := acc) (by omega) (by omega) (by omega) (by omega)).2.2.2.1 (by omega)) e14
                    have S14 := N14.2.2.2.2 rfl
                    have G141 := G14.1
                    have G142 := G14.2.1
                    have L14 : x_c m i14 ≠ 0 → i14 < tk := ltn _ (by omega) (by omega)
                    refine br_t (show (1 : Int) ≠ 0 by decide) ?_
                    show cw_C _ _ [vr x_reader_text_, vi 12, vi 0] (q_m m co14 hd fi se te re fa (x_P m i14) (x_E m i14) l14 dp cl z14) _
                    refine Te_emit hm0 (by omega) (by omega) (by omega) rfl ⟨(q_m_ok hm0), ?_⟩
                    refine br_t (show (0 : Int) = 0 by decide) ?_
                    refine And.intro (Or.inr rfl) ?_
                    show Q (some (vi 1)) (q_m m (cw_up co14 z14 (12)) hd fi se te re fa (x_P m i14) (x_E m i14) l14 dp cl (z14 + 1))
                    have CP := e_cp (op := 12) (q := x_c m i10) G10 T10 G14 T14 (by omega) (by unfold e_co; omega)
                    exact hok _ _ (p_cmp (x_c m i10) D10 D14) _ _ (by rw [p_t0, if_neg (by omega), if_neg (by omega), e10]; show (if _ then _ else _) = _; rw [if_pos (by omega), e14]; rfl) (e_gw CP.1 (by show _ ≤ _ - (i - 0); omega)) CP.2
                  · refine br_f (show ¬ ((0 : Int) ≠ 0) by decide) ?_
                    refine And.intro (Or.inl rfl) ?_
                    show Q (some (vi 0)) (q_m m co14 hd fi se te re (x_P m r14) s14 q14 a14 p14 cl z14)
                    exact her r14 _ _ _ _ _ _ (by rw [p_t0, if_neg (by omega), if_neg (by omega), e10]; show (if _ then _ else _) = _; rw [if_pos (by omega), e14]; rfl)
                · refine br_t (show (0 : Int) = 0 by decide) ?_
                  refine br_f (show ¬ ((13 : Int) ≠ 13) by decide) ?_
                  show cw_C _ _ [vr x_reader_, vi 61] (q_m m co10 hd fi se te re fa (x_P m i10) (x_E m i10) l10 dp cl z10) _
                  refine Rt_isSign hm0 hX (by decide) (by decide) (by decide) rfl (fun (a15 : x_c m i10 = 161) => ⟨(q_m_ok hm0), ?_⟩) (fun (a15 : x_c m i10 ≠ 161) => ⟨(q_m_ok hm0), ?_⟩)
                  · refine br_t (show (1 : Int) ≠ 0 by decide) ?_
                    show cw_C _ _ [vr x_reader_] (q_m m co10 hd fi se te re fa (x_P m i10) (x_E m i10) l10 dp cl z10) _
                    refine Rt_advance hm0 hX (by omega) ⟨(q_m_ok hm0), ?_⟩
                    show cw_C _ _ [vr x_reader_, vi 0] (q_m m co10 hd fi se te re fa (x_P m (i10 + 1)) (x_E m (i10 + 1)) l10 dp cl z10) _
                    refine ihs.2.2.2.1 _ dp (i10 + 1) l10 acc co10 z10 hd fi se te re fa cl _ (by omega) (by omega) (by omega) (by omega) (by omega) (by omega) (by omega) (by omega) G10.2.2.2 (by omega) (by omega) (fun (i16 l16 : Int) (D16 : p_D) (co16 : Int → Int) (z16 : Int) (e16 : p_s (x_c m) (x_v m) o f 3 dp (i10 + 1) l10 acc = .ok (i16, l16, D16)) (G16 : e_g co10 z10 co16 z16 (i10 + 1) i16) (T16 : e_sg co16 z10 z16 l10 D16) => ⟨(q_m_ok hm0), ?_⟩) (fun (r16 : Int) (co16 : Int → Int) (s16 q16 a16 p16 z16 : Int) (e16 : p_s (x_c m) (x_v m) o f 3 dp (i10 + 1) l10 acc = .error r16) => ⟨(q_m_ok hm0), ?_⟩)
                    · have N16 := p_Nok ((p_sN (c := x_c m) (v := x_v m) (o := o) hz f (dp := dp) (i := i10 + 1) (l := l10) (acc := acc) (by omega) (by omega) (by omega) (by omega)).2.2.2.1 (by omega)) e16
                      have S16 := N16.2.2.2.2 rfl
                      have G161 := G16.1
                      have G162 := G16.2.1
                      have L16 : x_c m i16 ≠ 0 → i16 < tk := ltn _ (by omega) (by omega)
                      refine br_t (show (1 : Int) ≠ 0 by decide) ?_
                      show cw_C _ _ [vr x_reader_text_, vi 13, vi 0] (q_m m co16 hd fi se te re fa (x_P m i16) (x_E m i16) l16 dp cl z16) _
                      refine Te_emit hm0 (by omega) (by omega) (by omega) rfl ⟨(q_m_ok hm0), ?_⟩
                      refine br_t (show (0 : Int) = 0 by decide) ?_
                      refine And.intro (Or.inr rfl) ?_
                      show Q (some (vi 1)) (q_m m (cw_up co16 z16 (13)) hd fi se te re fa (x_P m i16) (x_E m i16) l16 dp cl (z16 + 1))
                      have CP := e_cp (op := 13) (q := x_c m i10) G10 T10 G16 T16 (by omega) (by unfold e_co; omega)
                      exact hok _ _ (p_cmp (x_c m i10) D10 D16) _ _ (by rw [p_t0, if_neg (by omega), if_neg (by omega), e10]; show (if _ then _ else _) = _; rw [if_pos (by omega), e16]; rfl) (e_gw CP.1 (by show _ ≤ _ - (i - 0); omega)) CP.2
                    · refine br_f (show ¬ ((0 : Int) ≠ 0) by decide) ?_
                      refine And.intro (Or.inl rfl) ?_
                      show Q (some (vi 0)) (q_m m co16 hd fi se te re (x_P m r16) s16 q16 a16 p16 cl z16)
                      exact her r16 _ _ _ _ _ _ (by rw [p_t0, if_neg (by omega), if_neg (by omega), e10]; show (if _ then _ else _) = _; rw [if_pos (by omega), e16]; rfl)
                  · refine br_f (show ¬ ((0 : Int) ≠ 0) by decide) ?_
                    show cw_C _ _ [vr x_reader_] (q_m m co10 hd fi se te re fa (x_P m i10) (x_E m i10) l10 dp cl z10) _
                    refine Re_fail hm0 ⟨(q_m_ok hm0), ?_⟩
                    refine And.intro (Or.inl rfl) ?_
                    show Q (some (vi 0)) (q_m m co10 hd fi se te re (x_P m i10) (x_P m i10) (x_E m i10) l10 dp cl z10)
                    exact her _ _ _ _ _ _ _ (by rw [p_t0, if_neg (by omega), if_neg (by omega), e10]; show (if _ then _ else _) = _; rw [if_neg (by omega)])
            · refine br_f (show ¬ ((0 : Int) ≠ 0) by decide) ?_
              refine And.intro (Or.inl rfl) ?_
              show Q (some (vi 0)) (q_m m co10 hd fi se te re (x_P m r10) s10 q10 a10 p10 cl z10)
              exact her r10 _ _ _ _ _ _ (by rw [p_t0, if_neg (by omega), if_neg (by omega), e10]; rfl)
        · show cw_C _ _ [vr x_reader_, vr 10485772] (q_m m co hd fi se te re fa (x_P m i) (x_E m i) l dp cl sz) _
          refine Rt_word6 hm0 hX (fun (a17 : x_c m i = 7) => ⟨hm, ?_⟩) (fun (a17 : ¬ (x_c m i = 7)) => ⟨hm, ?_⟩)
          · refine br_f (show ¬ ((0 : Int) = (-1)) by decide) ?_
            refine br_f (show ¬ ((0 : Int) ≠ 0) by decide) ?_
            show cw_C _ _ [vr x_reader_] (q_m m co hd fi se te re fa (x_P m i) (x_E m i) l dp cl sz) _
            refine Rt_advance hm0 hX (by omega) ⟨(q_m_ok hm0), ?_⟩
            refine And.intro (show -2147483648 ≤ cnt + 1 ∧ cnt + 1 < 2147483648 by omega) ?_
            show cw_R _ _ 4 [vr x_reader_, vi 1, vi (cnt + 1)] [] (q_m m co hd fi se te re fa (x_P m (i + 1)) (x_E m (i + 1)) l dp cl sz) _
            exact ih.1 _ dp (i + 1) l acc co sz hd fi se te re fa cl Q true (cnt + 1) (by omega) (by omega) (by omega) (by omega) (by omega) (by omega) (by omega) (by omega) he0 (by omega) (by omega) (by omega) (by omega) (by show sz + 1 ≤ i + 1; omega) (fun iz lz Dz cz zz ez gz tz => hok iz lz Dz cz zz (by rw [p_t0, if_pos (by omega)]; exact ez) (e_gw gz (by show iz - (i + 1 - 1) ≤ iz - (i - 0); omega)) tz) (fun er c1 s1 q1 a1 p1 z1 ez => her er c1 s1 q1 a1 p1 z1 (by rw [p_t0, if_pos (by omega)]; exact ez))
          · refine br_t (show (-1 : Int) = (-1) by decide) ?_
            show cw_C _ _ [vr x_reader_, vi 40] (q_m m co hd fi se te re fa (x_P m i) (x_E m i) l dp cl sz) _
            refine Rt_isSign hm0 hX (by decide) (by decide) (by decide) rfl (fun (a18 : x_c m i = 140) => ⟨hm, ?_⟩) (fun (a18 : x_c m i ≠ 140) => ⟨hm, ?_⟩)
            · refine br_f (show ¬ ((1 : Int) = 0) by decide) ?_
              refine And.intro (fun (c19 : dp < 8) => ?_) (fun (c19 : ¬ (dp < 8)) => ?_)
              · refine And.intro (show -2147483648 ≤ dp + 1 ∧ dp + 1 < 2147483648 by omega) ?_
                have hm20 : la_ok (cw_put (q_m m co hd fi se te re fa (x_P m i) (x_E m i) l dp cl sz) x_reader_ 8 (dp + 1)) := la_put hm (by decide) (Or.inl rfl)
                show cw_C _ _ [vr x_reader_] (cw_put (q_m m co hd fi se te re fa (x_P m i) (x_E m i) l dp cl sz) x_reader_ 8 (dp + 1)) _
                rw [q_m_fop]
                have hm21 : la_ok (q_m m co hd fi se te re fa (x_P m i) (x_E m i) l (dp + 1) cl sz) := q_m_ok hm0
                refine Rt_advance hm0 hX (by omega) ⟨(q_m_ok hm0), ?_⟩
                show cw_C _ _ [vr x_reader_, vi 0] (q_m m co hd fi se te re fa (x_P m (i + 1)) (x_E m (i + 1)) l (dp + 1) cl sz) _
                refine ih.2.2.2.1 _ (dp + 1) (i + 1) l acc co sz hd fi se te re fa cl _ false (by omega) (by omega) (by omega) (by omega) (by omega) (by omega) (by omega) (by omega) he0 (by omega) (by omega) (fun (i22 l22 : Int) (D22 : p_D) (co22 : Int → Int) (z22 : Int) (e22 : p_t (x_c m) (x_v m) o f 3 (dp + 1) (i + 1) l acc false = .ok (i22, l22, D22)) (G22 : e_g co sz co22 z22 (i + 1) i22) (T22 : e_sg co22 sz z22 l D22) => ⟨(q_m_ok hm0), ?_⟩) (fun (r22 : Int) (co22 : Int → Int) (s22 q22 a22 p22 z22 : Int) (e22 : p_t (x_c m) (x_v m) o f 3 (dp + 1) (i + 1) l acc false = .error r22) => ⟨(q_m_ok hm0), ?_⟩)
                · have N22 := p_Nok ((p_tN (c := x_c m) (v := x_v m) (o := o) hz f (dp := dp + 1) (i := i + 1) (l := l) (acc := acc) (ng := false) (by omega) (by omega) (by omega) (by omega)).2.2.2.1 (by omega)) e22
                  have S22 := N22.2.2.2.2 rfl
                  have G221 := G22.1
                  have G222 := G22.2.1
                  have L22 : x_c m i22 ≠ 0 → i22 < tk := ltn _ (by omega) (by omega)
                  refine br_t (show (1 : Int) ≠ 0 by decide) ?_
                  show cw_C _ _ [vr x_reader_, vi 41] (q_m m co22 hd fi se te re fa (x_P m i22) (x_E m i22) l22 (dp + 1) cl z22) _
                  refine Rt_isSign hm0 hX (by decide) (by decide) (by decide) rfl (fun (a23 : x_c m i22 = 141) => ⟨(q_m_ok hm0), ?_⟩) (fun (a23 : x_c m i22 ≠ 141) => ⟨(q_m_ok hm0), ?_⟩)
                  · refine br_t (show (1 : Int) ≠ 0 by decide) ?_
                    refine And.intro (show -2147483648 ≤ (dp + 1) - 1 ∧ (dp + 1) - 1 < 2147483648 by omega) ?_
                    have hm24 : la_ok (cw_put (q_m m co22 hd fi se te re fa (x_P m i22) (x_E m i22) l22 (dp + 1) cl z22) x_reader_ 8 ((dp + 1) - 1)) := la_put (q_m_ok hm0) (by decide) (Or.inl rfl)
                    show cw_C _ _ [vr x_reader_] (cw_put (q_m m co22 hd fi se te re fa (x_P m i22) (x_E m i22) l22 (dp + 1) cl z22) x_reader_ 8 ((dp + 1) - 1)) _
                    rw [q_m_fop]
                    have hm25 : la_ok (q_m m co22 hd fi se te re fa (x_P m i22) (x_E m i22) l22 ((dp + 1) - 1) cl z22) := q_m_ok hm0
                    refine Rt_advance hm0 hX (by omega) ⟨(q_m_ok hm0), ?_⟩
                    refine br_t (show (0 : Int) = 0 by decide) ?_
                    refine And.intro (Or.inr rfl) ?_
                    show Q (some (vi 1)) (q_m m co22 hd fi se te re fa (x_P m (i22 + 1)) (x_E m (i22 + 1)) l22 ((dp + 1) - 1) cl z22)
                    rw [show dp + 1 - 1 = dp by omega]
                    exact hok _ _ D22 _ _ (by rw [p_t0, if_neg (by omega), if_pos (by omega), if_neg (by omega), e22]; show (if _ then _ else _) = _; rw [if_pos (by omega)]; rfl) (e_gw G22 (by show _ ≤ _ - (i - 0); omega)) T22
                  · refine br_f (show ¬ ((0 : Int) ≠ 0) by decide) ?_
                    show cw_C _ _ [vr x_reader_] (q_m m co22 hd fi se te re fa (x_P m i22) (x_E m i22) l22 (dp + 1) cl z22) _
                    refine Re_fail hm0 ⟨(q_m_ok hm0), ?_⟩
                    refine And.intro (Or.inl rfl) ?_
                    show Q (some (vi 0)) (q_m m co22 hd fi se te re (x_P m i22) (x_P m i22) (x_E m i22) l22 (dp + 1) cl z22)
                    exact her _ _ _ _ _ _ _ (by rw [p_t0, if_neg (by omega), if_pos (by omega), if_neg (by omega), e22]; show (if _ then _ else _) = _; rw [if_neg (by omega)])
                · refine br_f (show ¬ ((0 : Int) ≠ 0) by decide) ?_
                  refine And.intro (Or.inl rfl) ?_
                  show Q (some (vi 0)) (q_m m co22 hd fi se te re (x_P m r22) s22 q22 a22 p22 cl z22)
                  exact her r22 _ _ _ _ _ _ (by rw [p_t0, if_neg (by omega), if_pos (by omega), if_neg (by omega), e22]; rfl)
              · show cw_C _ _ [vr x_reader_] (q_m m co hd fi se te re fa (x_P m i) (x_E m i) l dp cl sz) _
                refine Re_fail hm0 ⟨(q_m_ok hm0), ?_⟩
                refine And.intro (Or.inl rfl) ?_
                show Q (some (vi 0)) (q_m m co hd fi se te re (x_P m i) (x_P m i) (x_E m i) l dp cl sz)
                exact her _ _ _ _ _ _ _ (by rw [p_t0, if_neg (by omega), if_pos (by omega), if_pos (by omega)])
            · refine br_t (show (0 : Int) = 0 by decide) ?_
              show cw_C _ _ [vr x_reader_, vi 0] (q_m m co hd fi se te re fa (x_P m i) (x_E m i) l dp cl sz) _
              refine ihs.2.2.2.1 _ dp i l acc co sz hd fi se te re fa cl _ (by omega) (by omega) (by omega) (by omega) (by omega) (by omega) (by omega) (by omega) he0 (by omega) (by omega) (fun (i26 l26 : Int) (D26 : p_D) (co26 : Int → Int) (z26 : Int) (e26 : p_s (x_c m) (x_v m) o f 3 dp i l acc = .ok (i26, l26, D26)) (G26 : e_g co sz co26 z26 i i26) (T26 : e_sg co26 sz z26 l D26) => ⟨(q_m_ok hm0), ?_⟩) (fun (r26 : Int) (co26 : Int → Int) (s26 q26 a26 p26 z26 : Int) (e26 : p_s (x_c m) (x_v m) o f 3 dp i l acc = .error r26) => ⟨(q_m_ok hm0), ?_⟩)
              · have N26 := p_Nok ((p_sN (c := x_c m) (v := x_v m) (o := o) hz f (dp := dp) (i := i) (l := l) (acc := acc) (by omega) (by omega) (by omega) (by omega)).2.2.2.1 (by omega)) e26
                have S26 := N26.2.2.2.2 rfl
                have G261 := G26.1
                have G262 := G26.2.1
                have L26 : x_c m i26 ≠ 0 → i26 < tk := ltn _ (by omega) (by omega)
                refine br_t (show (1 : Int) ≠ 0 by decide) ?_
                show cw_C _ _ [vr x_reader_, vi 60] (q_m m co26 hd fi se te re fa (x_P m i26) (x_E m i26) l26 dp cl z26) _
                refine Rt_isSign hm0 hX (by decide) (by decide) (by decide) rfl (fun (a27 : x_c m i26 = 160) => ⟨(q_m_ok hm0), ?_⟩) (fun (a27 : x_c m i26 ≠ 160) => ⟨(q_m_ok hm0), ?_⟩)
                · refine br_f (show ¬ ((1 : Int) = 0) by decide) ?_
                  refine br_t (show (11 : Int) ≠ 13 by decide) ?_
                  show cw_C _ _ [vr x_reader_] (q_m m co26 hd fi se te re fa (x_P m i26) (x_E m i26) l26 dp cl z26) _
                  refine Rt_advance hm0 hX (by omega) ⟨(q_m_ok hm0), ?_⟩
                  show cw_C _ _ [vr x_reader_, vi 0] (q_m m co26 hd fi se te re fa (x_P m (i26 + 1)) (x_E m (i26 + 1)) l26 dp cl z26) _
                  refine ihs.2.2.2.1 _ dp (i26 + 1) l26 acc co26 z26 hd fi se te re fa cl _ (by omega) (by omega) (by omega) (by omega) (by omega) (by omega) (by omega) (by omega) G26.2.2.2 (by omega) (by omega) (fun (i28 l28 : Int) (D28 : p_D) (co28 : Int → Int) (z28 : Int) (e28 : p_s (x_c m) (x_v m) o f 3 dp (i26 + 1) l26 acc = .ok (i28, l28, D28)) (G28 : e_g co26 z26 co28 z28 (i26 + 1) i28) (T28 : e_sg co28 z26 z28 l26 D28) => ⟨(q_m_ok hm0), ?_⟩) (fun (r28 : Int) (co28 : Int → Int) (s28 q28 a28 p28 z28 : Int) (e28 : p_s (x_c m) (x_v m) o f 3 dp (i26 + 1) l26 acc = .error r28) => ⟨(q_m_ok hm0), ?_⟩)
                  · have N28 := p_Nok ((p_sN (c := x_c m) (v := x_v m) (o := o) hz f (dp := dp) (i := i26 + 1) (l := l26) (acc := acc) (by omega) (by omega) (by omega) (by omega)).2.2.2.1 (by omega)) e28
                    have S28 := N28.2.2.2.2 rfl
                    have G281 := G28.1
                    have G282 := G28.2.1
                    have L28 : x_c m i28 ≠ 0 → i28 < tk := ltn _ (by omega) (by omega)
                    refine br_t (show (1 : Int) ≠ 0 by decide) ?_
                    show cw_C _ _ [vr x_reader_text_, vi 11, vi 0] (q_m m co28 hd fi se te re fa (x_P m i28) (x_E m i28) l28 dp cl z28) _
                    refine Te_emit hm0 (by omega) (by omega) (by omega) rfl ⟨(q_m_ok hm0), ?_⟩
                    refine br_t (show (0 : Int) = 0 by decide) ?_
                    refine And.intro (Or.inr rfl) ?_
                    show Q (some (vi 1)) (q_m m (cw_up co28 z28 (11)) hd fi se te re fa (x_P m i28) (x_E m i28) l28 dp cl (z28 + 1))
                    have CP := e_cp (op := 11) (q := x_c m i26) G26 T26 G28 T28 (by omega) (by unfold e_co; omega)
                    exact hok _ _ (p_cmp (x_c m i26) D26 D28) _ _ (by rw [p_t0, if_neg (by omega), if_neg (by omega), e26]; show (if _ then _ else _) = _; rw [if_pos (by omega), e28]; rfl) (e_gw CP.1 (by show _ ≤ _ - (i - 0); omega)) CP.2
                  · refine br_f (show ¬ ((0 : Int) ≠ 0) by decide) ?_
                    refine And.intro (Or.inl rfl) ?_
                    show Q (some (vi 0)) (q_m m co28 hd fi se te re (x_P m r28) s28 q28 a28 p28 cl z28)
                    exact her r28 _ _ _ _ _ _ (by rw [p_t0, if_neg (by omega), if_neg (by omega), e26]; show (if _ then _ else _) = _; rw [if_pos (by omega), e28]; rfl)
                · refine br_t (show (0 : Int) = 0 by decide) ?_
                  show cw_C _ _ [vr x_reader_, vi 62] (q_m m co26 hd fi se te re fa (x_P m i26) (x_E m i26) l26 dp cl z26) _
                  refine Rt_isSign hm0 hX (by decide) (by decide) (by decide) rfl (fun (a29 : x_c m i26 = 162) => ⟨(q_m_ok hm0), ?_⟩) (fun (a29 : x_c m i26 ≠ 162) => ⟨(q_m_ok hm0), ?_⟩)
                  · refine br_f (show ¬ ((1 : Int) = 0) by decide) ?_
                    refine br_t (show (12 : Int) ≠ 13 by decide) ?_
                    show cw_C _ _ [vr x_reader_] (q_m m co26 hd fi se te re fa (x_P m i26) (x_E m i26) l26 dp cl z26) _
                    refine Rt_advance hm0 hX (by omega) ⟨(q_m_ok hm0), ?_⟩
                    show cw_C _ _ [vr x_reader_, vi 0] (q_m m co26 hd fi se te re fa (x_P m (i26 + 1)) (x_E m (i26 + 1)) l26 dp cl z26) _
                    refine ihs.2.2.2.1 _ dp (i26 + 1) l26 acc co26 z26 hd fi se te re fa cl _ (by omega) (by omega) (by omega) (by omega) (by omega) (by omega) (by omega) (by omega) G26.2.2.2 (by omega) (by omega) (fun (i30 l30 : Int) (D30 : p_D) (co30 : Int → Int) (z30 : Int) (e30 : p_s (x_c m) (x_v m) o f 3 dp (i26 + 1) l26 acc = .ok (i30, l30, D30)) (G30 : e_g co26 z26 co30 z30 (i26 + 1) i30) (T30 : e_sg co30 z26 z30 l26 D30) => ⟨(q_m_ok hm0), ?_⟩) (fun (r30 : Int) (co30 : Int → Int) (s30 q30 a30 p30 z30 : Int) (e30 : p_s (x_c m) (x_v m) o f 3 dp (i26 + 1) l26 acc = .error r30) => ⟨(q_m_ok hm0), ?_⟩)
                    · have N30 := p_Nok ((p_sN (c := x_c m) (v := x_v m) (o := o) hz f (dp := dp) (i := i26 + 1) (l := l26) (acc := acc) (by omega) (by omega) (by omega) (by omega)).2.2.2.1 (by omega)) e30
                      have S30 := N30.2.2.2.2 rfl
                      have G301 := G30.1
                      have G302 := G30.2.1
                      have L30 : x_c m i30 ≠ 0 → i30 < tk := ltn _ (by omega) (by omega)
                      refine br_t (show (1 : Int) ≠ 0 by decide) ?_
                      show cw_C _ _ [vr x_reader_text_, vi 12, vi 0] (q_m m co30 hd fi se te re fa (x_P m i30) (x_E m i30) l30 dp cl z30) _
                      refine Te_emit hm0 (by omega) (by omega) (by omega) rfl ⟨(q_m_ok hm0), ?_⟩
                      refine br_t (show (0 : Int) = 0 by decide) ?_
                      refine And.intro (Or.inr rfl) ?_
                      show Q (some (vi 1)) (q_m m (cw_up co30 z30 (12)) hd fi se te re fa (x_P m i30) (x_E m i30) l30 dp cl (z30 + 1))
                      have CP := e_cp (op := 12) (q := x_c m i26) G26 T26 G30 T30 (by omega) (by unfold e_co; omega)
                      exact hok _ _ (p_cmp (x_c m i26) D26 D30) _ _ (by rw [p_t0, if_neg (by omega), if_neg (by omega), e26]; show (if _ then _ else _) = _; rw [if_pos (by omega), e30]; rfl) (e_gw CP.1 (by show _ ≤ _ - (i - 0); omega)) CP.2
                    · refine br_f (show ¬ ((0 : Int) ≠ 0) by decide) ?_
                      refine And.intro (Or.inl rfl) ?_
                      show Q (some (vi 0)) (q_m m co30 hd fi se te re (x_P m r30) s30 q30 a30 p30 cl z30)
                      exact her r30 _ _ _ _ _ _ (by rw [p_t0, if_neg (by omega), if_neg (by omega), e26]; show (if _ then _ else _) = _; rw [if_pos (by omega), e30]; rfl)
                  · refine br_t (show (0 : Int) = 0 by decide) ?_
                    refine br_f (show ¬ ((13 : Int) ≠ 13) by decide) ?_
                    show cw_C _ _ [vr x_reader_, vi 61] (q_m m co26 hd fi se te re fa (x_P m i26) (x_E m i26) l26 dp cl z26) _
                    refine Rt_isSign hm0 hX (by decide) (by decide) (by decide) rfl (fun (a31 : x_c m i26 = 161) => ⟨(q_m_ok hm0), ?_⟩) (fun (a31 : x_c m i26 ≠ 161) => ⟨(q_m_ok hm0), ?_⟩)
                    · refine br_t (show (1 : Int) ≠ 0 by decide) ?_
                      show cw_C _ _ [vr x_reader_] (q_m m co26 hd fi se te re fa (x_P m i26) (x_E m i26) l26 dp cl z26) _
                      refine Rt_advance hm0 hX (by omega) ⟨(q_m_ok hm0), ?_⟩
                      show cw_C _ _ [vr x_reader_, vi 0] (q_m m co26 hd fi se te re fa (x_P m (i26 + 1)) (x_E m (i26 + 1)) l26 dp cl z26) _
                      refine ihs.2.2.2.1 _ dp (i26 + 1) l26 acc co26 z26 hd fi se te re fa cl _ (by omega) (by omega) (by omega) (by omega) (by omega) (by omega) (by omega) (by omega) G26.2.2.2 (by omega) (by omega) (fun (i32 l32 : Int) (D32 : p_D) (co32 : Int → Int) (z32 : Int) (e32 : p_s (x_c m) (x_v m) o f 3 dp (i26 + 1) l26 acc = .ok (i32, l32, D32)) (G32 : e_g co26 z26 co32 z32 (i26 + 1) i32) (T32 : e_sg co32 z26 z32 l26 D32) => ⟨(q_m_ok hm0), ?_⟩) (fun (r32 : Int) (co32 : Int → Int) (s32 q32 a32 p32 z32 : Int) (e32 : p_s (x_c m) (x_v m) o f 3 dp (i26 + 1) l26 acc = .error r32) => ⟨(q_m_ok hm0), ?_⟩)
                      · have N32 := p_Nok ((p_sN (c := x_c m) (v := x_v m) (o := o) hz f (dp := dp) (i := i26 + 1) (l := l26) (acc := acc) (by omega) (by omega) (by omega) (by omega)).2.2.2.1 (by omega)) e32
                        have S32 := N32.2.2.2.2 rfl
                        have G321 := G32.1
                        have G322 := G32.2.1
                        have L32 : x_c m i32 ≠ 0 → i32 < tk := ltn _ (by omega) (by omega)
                        refine br_t (show (1 : Int) ≠ 0 by decide) ?_
                        show cw_C _ _ [vr x_reader_text_, vi 13, vi 0] (q_m m co32 hd fi se te re fa (x_P m i32) (x_E m i32) l32 dp cl z32) _
                        refine Te_emit hm0 (by omega) (by omega) (by omega) rfl ⟨(q_m_ok hm0), ?_⟩
                        refine br_t (show (0 : Int) = 0 by decide) ?_
                        refine And.intro (Or.inr rfl) ?_
                        show Q (some (vi 1)) (q_m m (cw_up co32 z32 (13)) hd fi se te re fa (x_P m i32) (x_E m i32) l32 dp cl (z32 + 1))
                        have CP := e_cp (op := 13) (q := x_c m i26) G26 T26 G32 T32 (by omega) (by unfold e_co; omega)
                        exact hok _ _ (p_cmp (x_c m i26) D26 D32) _ _ (by rw [p_t0, if_neg (by omega), if_neg (by omega), e26]; show (if _ then _ else _) = _; rw [if_pos (by omega), e32]; rfl) (e_gw CP.1 (by show _ ≤ _ - (i - 0); omega)) CP.2
                      · refine br_f (show ¬ ((0 : Int) ≠ 0) by decide) ?_
                        refine And.intro (Or.inl rfl) ?_
                        show Q (some (vi 0)) (q_m m co32 hd fi se te re (x_P m r32) s32 q32 a32 p32 cl z32)
                        exact her r32 _ _ _ _ _ _ (by rw [p_t0, if_neg (by omega), if_neg (by omega), e26]; show (if _ then _ else _) = _; rw [if_pos (by omega), e32]; rfl)
                    · refine br_f (show ¬ ((0 : Int) ≠ 0) by decide) ?_
                      show cw_C _ _ [vr x_reader_] (q_m m co26 hd fi se te re fa (x_P m i26) (x_E m i26) l26 dp cl z26) _
                      refine Re_fail hm0 ⟨(q_m_ok hm0), ?_⟩
                      refine And.intro (Or.inl rfl) ?_
                      show Q (some (vi 0)) (q_m m co26 hd fi se te re (x_P m i26) (x_P m i26) (x_E m i26) l26 dp cl z26)
                      exact her _ _ _ _ _ _ _ (by rw [p_t0, if_neg (by omega), if_neg (by omega), e26]; show (if _ then _ else _) = _; rw [if_neg (by omega)])
              · refine br_f (show ¬ ((0 : Int) ≠ 0) by decide) ?_
                refine And.intro (Or.inl rfl) ?_
                show Q (some (vi 0)) (q_m m co26 hd fi se te re (x_P m r26) s26 q26 a26 p26 cl z26)
                exact her r26 _ _ _ _ _ _ (by rw [p_t0, if_neg (by omega), if_neg (by omega), e26]; rfl)
    · intro d0 dp i l acc co sz hd fi se te re fa cl Q ng h0 h1 hl0 hl1 hd0 hd8 hz0 hzi he0 hd_ hf hok her
      obtain ⟨d, rfl⟩ : ∃ k, d0 = k + 9 := ⟨d0 - 9, by omega⟩
      have hm : la_ok (q_m m co hd fi se te re fa (x_P m i) (x_E m i) l dp cl sz) := q_m_ok hm0
      have hlt : x_c m i ≠ 0 → i < tk := ltn i h0 h1
      refine la_go_C hm 16 [38] ?_
      refine br_f (show ¬ ((1 : Int) = 0) by decide) ?_
      refine br_f (show ¬ ((1 : Int) = 0) by decide) ?_
      show cw_C _ _ [vr x_reader_] (q_m m co hd fi se te re fa (x_P m i) (x_E m i) l dp cl sz) _
      refine plain _ dp i l acc co sz hd fi se te re fa cl _ false (by omega) (by omega) (by omega) (by omega) (by omega) (by omega) (by omega) (by omega) he0 (by omega) (by omega) (fun (i1 l1 : Int) (D1 : p_D) (co1 : Int → Int) (z1 : Int) (e1 : p_t (x_c m) (x_v m) o f 0 dp i l acc false = .ok (i1, l1, D1)) (G1 : e_g co sz co1 z1 i i1) (T1 : e_sg co1 sz z1 l D1) => ⟨(q_m_ok hm0), ?_⟩) (fun (r1 : Int) (co1 : Int → Int) (s1 q1 a1 p1 z1 : Int) (e1 : p_t (x_c m) (x_v m) o f 0 dp i l acc false = .error r1) => ⟨(q_m_ok hm0), ?_⟩)
      · have N1 := p_Nok ((p_tN (c := x_c m) (v := x_v m) (o := o) hz f (dp := dp) (i := i) (l := l) (acc := acc) (ng := false) (by omega) (by omega) (by omega) (by omega)).1 (by omega)) e1
        have S1 := N1.2.2.2.2 rfl
        have G11 := G1.1
        have G12 := G1.2.1
        have L1 : x_c m i1 ≠ 0 → i1 < tk := ltn _ (by omega) (by omega)
        refine br_t (show (1 : Int) ≠ 0 by decide) ?_
        show cw_R _ _ 38 [vr x_reader_, vi 1, vr 4194316, vi 0, none] [] (q_m m co1 hd fi se te re fa (x_P m i1) (x_E m i1) l1 dp cl z1) _
        exact ih.2.2.1 _ dp i1 l1 D1 co1 z1 hd fi se te re fa cl Q false sz l 0 none (by omega) (by omega) (by omega) (by omega) (by omega) (by omega) (by omega) (by omega) G1.2.2.2 (by omega) (by omega) (by omega) (by omega) (by omega) T1 (by omega) (by omega) (fun iz lz Dz cz zz ez gz tz => hok iz lz Dz cz zz (by rw [p_t1, e1]; exact ez) (e_gt G1 gz) tz) (fun er c1 s1 q1 a1 p1 z1 ez => her er c1 s1 q1 a1 p1 z1 (by rw [p_t1, e1]; exact ez))
      · refine br_f (show ¬ ((0 : Int) ≠ 0) by decide) ?_
        refine And.intro (Or.inl rfl) ?_
        show Q (some (vi 0)) (q_m m co1 hd fi se te re (x_P m r1) s1 q1 a1 p1 cl z1)
        exact her r1 _ _ _ _ _ _ (by rw [p_t1, e1]; rfl)
    · intro d0 dp i l acc co sz hd fi se te re fa cl Q ng a0 l0 cnt w4 h0 h1 hl0 hl1 hd0 hd8 hz0 hzi he0 hd_ hf ha0 ha1 hll hsg hc0 hci hok her
      obtain ⟨d, rfl⟩ : ∃ k, d0 = k + 9 := ⟨d0 - 9, by omega⟩
      have hm : la_ok (q_m m co hd fi se te re fa (x_P m i) (x_E m i) l dp cl sz) := q_m_ok hm0
      have hlt : x_c m i ≠ 0 → i < tk := ltn i h0 h1
      have hin : x_c m i = 6 → i < tk := fun q => hlt (by omega)
      refine la_go_R hm 33 [38] ?_
      refine And.intro (fun (c1 : 400 ≤ cnt) => ?_) (fun (c1 : ¬ (400 ≤ cnt)) => ?_)
      · have hc9 : x_c m i = 0 := by rw [show i = tk by omega]; exact hz
        refine And.intro (Or.inr rfl) ?_
        show Q (some (vi 1)) (q_m m co hd fi se te re fa (x_P m i) (x_E m i) l dp cl sz)
        exact hok _ _ acc _ _ (by rw [p_t2, if_neg (by omega)]) ⟨Int.le_refl _, by omega, fun _ _ => rfl, he0⟩ hsg
      · show cw_C _ _ [vr x_reader_, vr 4194316] (q_m m co hd fi se te re fa (x_P m i) (x_E m i) l dp cl sz) _
        refine Rt_word0 hm0 hX (fun (a2 : x_c m i = 6) => ⟨hm, ?_⟩) (fun (a2 : ¬ (x_c m i = 6)) => ⟨hm, ?_⟩)
        · refine br_f (show ¬ ((0 : Int) = (-1)) by decide) ?_
          show cw_C _ _ [vr x_reader_] (q_m m co hd fi se te re fa (x_P m i) (x_E m i) l dp cl sz) _
          refine Rt_advance hm0 hX (by omega) ⟨(q_m_ok hm0), ?_⟩
          refine br_f (show ¬ ((1 : Int) = 0) by decide) ?_
          show cw_C _ _ [vr x_reader_text_, vi 4, vi 0] (q_m m co hd fi se te re fa (x_P m (i + 1)) (x_E m (i + 1)) l dp cl sz) _
          refine Te_emit hm0 (by omega) (by omega) (by omega) rfl ⟨(q_m_ok hm0), ?_⟩
          refine br_f (show ¬ ((1 : Int) = 0) by decide) ?_
          show cw_C _ _ [vr x_reader_] (q_m m (cw_up co sz (4)) hd fi se te re fa (x_P m (i + 1)) (x_E m (i + 1)) l dp cl (sz + 1)) _
          refine plain _ dp (i + 1) l acc (cw_up co sz (4)) (sz + 1) hd fi se te re fa cl _ false (by omega) (by omega) (by omega) (by omega) (by omega) (by omega) (by omega) (by omega) (e_okup he0 (by omega)) (by omega) (by omega) (fun (i3 l3 : Int) (D3 : p_D) (co3 : Int → Int) (z3 : Int) (e3 : p_t (x_c m) (x_v m) o f 0 dp (i + 1) l acc false = .ok (i3, l3, D3)) (G3 : e_g (cw_up co sz (4)) (sz + 1) co3 z3 (i + 1) i3) (T3 : e_sg co3 (sz + 1) z3 l D3) => ⟨(q_m_ok hm0), ?_⟩) (fun (r3 : Int) (co3 : Int → Int) (s3 q3 a3 p3 z3 : Int) (e3 : p_t (x_c m) (x_v m) o f 0 dp (i + 1) l acc false = .error r3) => ⟨(q_m_ok hm0), ?_⟩)
          · have N3 := p_Nok ((p_tN (c := x_c m) (v := x_v m) (o := o) hz f (dp := dp) (i := i + 1) (l := l) (acc := acc) (ng := false) (by omega) (by omega) (by omega) (by omega)).1 (by omega)) e3
            have S3 := N3.2.2.2.2 rfl
            have G31 := G3.1
            have G32 := G3.2.1
            have L3 : x_c m i3 ≠ 0 → i3 < tk := ltn _ (by omega) (by omega)
            refine br_t (show (1 : Int) ≠ 0 by decide) ?_
            show cw_C _ _ [vr x_reader_text_, vi sz] (q_m m co3 hd fi se te re fa (x_P m i3) (x_E m i3) l3 dp cl z3) _
            refine Te_skipToHere hm0 (by omega) (by omega) (G3.2.2.2 sz (by omega) (by omega)) ⟨(q_m_ok hm0), ?_⟩
            refine And.intro (show -2147483648 ≤ cnt + 1 ∧ cnt + 1 < 2147483648 by omega) ?_
            show cw_R _ _ 38 [vr x_reader_, vi 1, vr 4194316, vi (cnt + 1), vi sz] [] (q_m m (cw_up co3 sz (16 * z3 + co3 sz % 16)) hd fi se te re fa (x_P m i3) (x_E m i3) l3 dp cl z3) _
            have LP := e_ap hsg G3 T3 hll ha1 (by omega)
            exact ih.2.2.1 _ dp i3 l3 (p_and acc D3) _ z3 hd fi se te re fa cl Q false a0 l0 (cnt + 1) (vi sz) (by omega) (by omega) (by omega) (by omega) (by omega) (by omega) (by omega) (by omega) LP.1.2.2.2 (by omega) (by omega) (by omega) (by omega) (by omega) LP.2 (by omega) (by omega) (fun iz lz Dz cz zz ez gz tz => hok iz lz Dz cz zz (by rw [p_t2, if_pos (by omega), e3]; exact ez) (e_gt LP.1 gz) tz) (fun er c1 s1 q1 a1 p1 z1 ez => her er c1 s1 q1 a1 p1 z1 (by rw [p_t2, if_pos (by omega), e3]; exact ez))
          · refine br_f (show ¬ ((0 : Int) ≠ 0) by decide) ?_
            refine And.intro (Or.inl rfl) ?_
            show Q (some (vi 0)) (q_m m co3 hd fi se te re (x_P m r3) s3 q3 a3 p3 cl z3)
            exact her r3 _ _ _ _ _ _ (by rw [p_t2, if_pos (by omega), e3]; rfl)
        · refine br_t (show (-1 : Int) = (-1) by decide) ?_
          refine And.intro (Or.inr rfl) ?_
          show Q (some (vi 1)) (q_m m co hd fi se te re fa (x_P m i) (x_E m i) l dp cl sz)
          exact hok _ _ acc _ _ (by rw [p_t2, if_neg (by omega)]) ⟨Int.le_refl _, by omega, fun _ _ => rfl, he0⟩ hsg
    · intro d0 dp i l acc co sz hd fi se te re fa cl Q ng h0 h1 hl0 hl1 hd0 hd8 hz0 hzi he0 hd_ hf hok her
      obtain ⟨d, rfl⟩ : ∃ k, d0 = k + 10 := ⟨d0 - 10, by omega⟩
      have hm : la_ok (q_m m co hd fi se te re fa (x_P m i) (x_E m i) l dp cl sz) := q_m_ok hm0
      have hlt : x_c m i ≠ 0 → i < tk := ltn i h0 h1
      refine la_go_C hm 15 [38] ?_
      refine br_t (show (0 : Int) = 0 by decide) ?_
      refine br_t (show (0 : Int) = 0 by decide) ?_
      show cw_C _ _ [vr x_reader_, vi 1] (q_m m co hd fi se te re fa (x_P m i) (x_E m i) l dp cl sz) _
      refine ih.2.1 _ dp i l acc co sz hd fi se te re fa cl _ false (by omega) (by omega) (by omega) (by omega) (by omega) (by omega) (by omega) (by omega) he0 (by omega) (by omega) (fun (i1 l1 : Int) (D1 : p_D) (co1 : Int → Int) (z1 : Int) (e1 : p_t (x_c m) (x_v m) o f 1 dp i l acc false = .ok (i1, l1, D1)) (G1 : e_g co sz co1 z1 i i1) (T1 : e_sg co1 sz z1 l D1) => ⟨(q_m_ok hm0), ?_⟩) (fun (r1 : Int) (co1 : Int → Int) (s1 q1 a1 p1 z1 : Int) (e1 : p_t (x_c m) (x_v m) o f 1 dp i l acc false = .error r1) => ⟨(q_m_ok hm0), ?_⟩)
      · have N1 := p_Nok ((p_tN (c := x_c m) (v := x_v m) (o := o) hz f (dp := dp) (i := i) (l := l) (acc := acc) (ng := false) (by omega) (by omega) (by omega) (by omega)).2.1 (by omega)) e1
        have S1 := N1.2.2.2.2 rfl
        have G11 := G1.1
        have G12 := G1.2.1
        have L1 : x_c m i1 ≠ 0 → i1 < tk := ltn _ (by omega) (by omega)
        refine br_t (show (1 : Int) ≠ 0 by decide) ?_
        show cw_R _ _ 38 [vr x_reader_, vi 0, vr 5242892, vi 0, none] [] (q_m m co1 hd fi se te re fa (x_P m i1) (x_E m i1) l1 dp cl z1) _
        exact ih.2.2.2.2 _ dp i1 l1 D1 co1 z1 hd fi se te re fa cl Q false sz l 0 none (by omega) (by omega) (by omega) (by omega) (by omega) (by omega) (by omega) (by omega) G1.2.2.2 (by omega) (by omega) (by omega) (by omega) (by omega) T1 (by omega) (by omega) (fun iz lz Dz cz zz ez gz tz => hok iz lz Dz cz zz (by rw [p_t3, e1]; exact ez) (e_gt G1 gz) tz) (fun er c1 s1 q1 a1 p1 z1 ez => her er c1 s1 q1 a1 p1 z1 (by rw [p_t3, e1]; exact ez))
      · refine br_f (show ¬ ((0 : Int) ≠ 0) by decide) ?_
        refine And.intro (Or.inl rfl) ?_
        show Q (some (vi 0)) (q_m m co1 hd fi se te re (x_P m r1) s1 q1 a1 p1 cl z1)
        exact her r1 _ _ _ _ _ _ (by rw [p_t3, e1]; rfl)
    · intro d0 dp i l acc co sz hd fi se te re fa cl Q ng a0 l0 cnt w4 h0 h1 hl0 hl1 hd0 hd8 hz0 hzi he0 hd_ hf ha0 ha1 hll hsg hc0 hci hok her
      obtain ⟨d, rfl⟩ : ∃ k, d0 = k + 10 := ⟨d0 - 10, by omega⟩
      have hm : la_ok (q_m m co hd fi se te re fa (x_P m i) (x_E m i) l dp cl sz) := q_m_ok hm0
      have hlt : x_c m i ≠ 0 → i < tk := ltn i h0 h1
      have hin : x_c m i = 5 → i < tk := fun q => hlt (by omega)
      refine la_go_R hm 33 [38] ?_
      refine And.intro (fun (c1 : 400 ≤ cnt) => ?_) (fun (c1 : ¬ (400 ≤ cnt)) => ?_)
      · have hc9 : x_c m i = 0 := by rw [show i = tk by omega]; exact hz
        refine And.intro (Or.inr rfl) ?_
        show Q (some (vi 1)) (q_m m co hd fi se te re fa (x_P m i) (x_E m i) l dp cl sz)
        exact hok _ _ acc _ _ (by rw [p_t4, if_neg (by omega)]) ⟨Int.le_refl _, by omega, fun _ _ => rfl, he0⟩ hsg
      · show cw_C _ _ [vr x_reader_, vr 5242892] (q_m m co hd fi se te re fa (x_P m i) (x_E m i) l dp cl sz) _
        refine Rt_word1 hm0 hX (fun (a2 : x_c m i = 5) => ⟨hm, ?_⟩) (fun (a2 : ¬ (x_c m i = 5)) => ⟨hm, ?_⟩)
        · refine br_f (show ¬ ((0 : Int) = (-1)) by decide) ?_
          show cw_C _ _ [vr x_reader_] (q_m m co hd fi se te re fa (x_P m i) (x_E m i) l dp cl sz) _
          refine Rt_advance hm0 hX (by omega) ⟨(q_m_ok hm0), ?_⟩
          refine br_t (show (0 : Int) = 0 by decide) ?_
          show cw_C _ _ [vr x_reader_text_, vi 5, vi 0] (q_m m co hd fi se te re fa (x_P m (i + 1)) (x_E m (i + 1)) l dp cl sz) _
          refine Te_emit hm0 (by omega) (by omega) (by omega) rfl ⟨(q_m_ok hm0), ?_⟩
          refine br_t (show (0 : Int) = 0 by decide) ?_
          show cw_C _ _ [vr x_reader_, vi 1] (q_m m (cw_up co sz (5)) hd fi se te re fa (x_P m (i + 1)) (x_E m (i + 1)) l dp cl (sz + 1)) _
          refine ih.2.1 _ dp (i + 1) l acc (cw_up co sz (5)) (sz + 1) hd fi se te re fa cl _ false (by omega) (by omega) (by omega) (by omega) (by omega) (by omega) (by omega) (by omega) (e_okup he0 (by omega)) (by omega) (by omega) (fun (i3 l3 : Int) (D3 : p_D) (co3 : Int → Int) (z3 : Int) (e3 : p_t (x_c m) (x_v m) o f 1 dp (i + 1) l acc false = .ok (i3, l3, D3)) (G3 : e_g (cw_up co sz (5)) (sz + 1) co3 z3 (i + 1) i3) (T3 : e_sg co3 (sz + 1) z3 l D3) => ⟨(q_m_ok hm0), ?_⟩) (fun (r3 : Int) (co3 : Int → Int) (s3 q3 a3 p3 z3 : Int) (e3 : p_t (x_c m) (x_v m) o f 1 dp (i + 1) l acc false = .error r3) => ⟨(q_m_ok hm0), ?_⟩)
          · have N3 := p_Nok ((p_tN (c := x_c m) (v := x_v m) (o := o) hz f (dp := dp) (i := i + 1) (l := l) (acc := acc) (ng := false) (by omega) (by omega) (by omega) (by omega)).2.1 (by omega)) e3
            have S3 := N3.2.2.2.2 rfl
            have G31 := G3.1
            have G32 := G3.2.1
            have L3 : x_c m i3 ≠ 0 → i3 < tk := ltn _ (by omega) (by omega)
            refine br_t (show (1 : Int) ≠ 0 by decide) ?_
            show cw_C _ _ [vr x_reader_text_, vi sz] (q_m m co3 hd fi se te re fa (x_P m i3) (x_E m i3) l3 dp cl z3) _
            refine Te_skipToHere hm0 (by omega) (by omega) (G3.2.2.2 sz (by omega) (by omega)) ⟨(q_m_ok hm0), ?_⟩
            refine And.intro (show -2147483648 ≤ cnt + 1 ∧ cnt + 1 < 2147483648 by omega) ?_
            show cw_R _ _ 38 [vr x_reader_, vi 0, vr 5242892, vi (cnt + 1), vi sz] [] (q_m m (cw_up co3 sz (16 * z3 + co3 sz % 16)) hd fi se te re fa (x_P m i3) (x_E m i3) l3 dp cl z3) _
            have LP := e_aq hsg G3 T3 hll ha1 (by omega)
            exact ih.2.2.2.2 _ dp i3 l3 (p_or acc D3) _ z3 hd fi se te re fa cl Q false a0 l0 (cnt + 1) (vi sz) (by omega) (by omega) (by omega) (by omega) (by omega) (by omega) (by omega) (by omega) LP.1.2.2.2 (by omega) (by omega) (by omega) (by omega) (by omega) LP.2 (by omega) (by omega) (fun iz lz Dz cz zz ez gz tz => hok iz lz Dz cz zz (by rw [p_t4, if_pos (by omega), e3]; exact ez) (e_gt LP.1 gz) tz) (fun er c1 s1 q1 a1 p1 z1 ez => her er c1 s1 q1 a1 p1 z1 (by rw [p_t4, if_pos (by omega), e3]; exact ez))
          · refine br_f (show ¬ ((0 : Int) ≠ 0) by decide) ?_
            refine And.intro (Or.inl rfl) ?_
            show Q (some (vi 0)) (q_m m co3 hd fi se te re (x_P m r3) s3 q3 a3 p3 cl z3)
            exact her r3 _ _ _ _ _ _ (by rw [p_t4, if_pos (by omega), e3]; rfl)
        · refine br_t (show (-1 : Int) = (-1) by decide) ?_
          refine And.intro (Or.inr rfl) ?_
          show Q (some (vi 1)) (q_m m co hd fi se te re fa (x_P m i) (x_E m i) l dp cl sz)
          exact hok _ _ acc _ _ (by rw [p_t4, if_neg (by omega)]) ⟨Int.le_refl _, by omega, fun _ _ => rfl, he0⟩ hsg
