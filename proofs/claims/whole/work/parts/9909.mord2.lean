/-! The whole of orders, by the reference (wip/whole/tools/m109.py). -/
theorem o_lk {c v : Int → Int} {n : Int} : ∀ {Ks : List p_K} {i : Int} {s s' : o_S}, o_l Ks i s = .ok s' → True := fun _ => trivial
def la_m (m : cw_M) (f : Int → Int) : cw_M := cw_row m m_leftAhead_ f
theorem la_mok {m : cw_M} {f : Int → Int} (hm : la_ok m) : la_ok (la_m m f) := la_row hm (by decide) (by decide)
theorem la_mp {m : cw_M} {f : Int → Int} {i v : Int} : cw_put (la_m m f) m_leftAhead_ i v = la_m m (cw_up f i v) := cw_row_put
theorem la_ms {m : cw_M} : la_m m (m m_leftAhead_) = m := cw_row_self
theorem M_orders95 {d : Nat} {X m : cw_M} {Q : Option cw_V → cw_M → Prop} {L0 K0 c v : Int → Int} {u0 n ua : Int} {s : o_S} {Ks : List p_K} {RR : Except Int o_S} {w4 : cw_V} (hn : 0 ≤ n ∧ n ≤ 400) (hz : c n = 0) (hc : ∀ j, 0 ≤ j → j < 7 → m m_catalan_ j = t_c j) (hok : ∀ X s', S_R X m L0 u0 s' → K_r s'.1 → RR = .ok s' → Q (some (vi s'.2.2.1)) (gd_m X)) (fail : ∀ (k : Int) (X : cw_M) (K L : Int → Int) (un : Int) (w4 : cw_V), la_ok X → P_s (st_m m K L un) X → (∀ i, (19 ≤ i ∨ i < 0) → K i = K0 i) → (0 ≤ k ∧ k ≤ 11) → RR = .error k → cw_R (d + 78) k_M_orders 114 [vr m_, vi ua, vi (2400 + n), vi k, w4] [] X Q) (hS : S_R X m L0 u0 s) (x46 : X m_ 46 = 2400) (hB : O_B K0 c v n s 0) (hp : p_all c v true n = .ok Ks) (hR : o_l Ks 0 s = RR) : cw_R (d + 78) k_M_orders 95 [vr m_, vi ua, vi (2400 + n), vi 0, w4] [] X Q := by
  have hlt : ∀ z, c z ≠ 0 → z ≤ n → z < n := fun z q z1 => by
    by_cases e : z = n
    · rw [e, hz] at q; exact absurd rfl q
    · omega
  have done : ∀ (k : Int) (X : cw_M) (s : o_S) (w4 : cw_V), S_R X m L0 u0 s → K_r s.1 → 2400 + n ≤ X m_ 46 → RR = .ok s → cw_R (d + 78) k_M_orders 95 [vr m_, vi ua, vi (2400 + n), vi k, w4] [] X Q := by
    intro k X s w4 hS hKr x46 hR
    refine la_go_R hS.1 12 [] ?_
    refine br_t (show 2400 + n ≤ X m_ 46 by omega) ?_
    show cw_C _ _ [vr m_, vi (X m_ 27)] (X) _
    refine M_good hS.1 ⟨(gd_ok hS.1), ?_⟩
    show Q (some (vi (X m_ 27))) (gd_m X)
    rw [hS.2.2.1]
    exact hok X s hS hKr hR
  have lp : ∀ (r : Nat) (k i0 l : Int) (acc : List p_K) (X : cw_M) (s : o_S) (w4 : cw_V), k + r = 13 → (0 ≤ k ∧ k ≤ 11) → (0 ≤ i0) → (i0 ≤ n) → (0 ≤ l) → (l ≤ 50) → (S_R X m L0 u0 s) → (X m_ 46 = 2400 + i0) → (O_B K0 c v n s (20 * k)) → (p_nx c v true n r k i0 l acc = .ok Ks) → (∀ rest, Ks = acc ++ rest → o_l rest k s = RR) → cw_R (d + 78) k_M_orders 95 [vr m_, vi ua, vi (2400 + n), vi k, w4] [] X Q := by
    intro r
    induction r with
    | zero =>
      intro k i0 l acc X s w4 hr hk h0 h1 hl0 hl1 hS x46 hB hp hR
      obtain ⟨i1, l1, KK, e1, er⟩ := p_nxI hp; cases er
    | succ r ih =>
      intro k i0 l acc X s w4 hr hk h0 h1 hl0 hl1 hS x46 hB hp hR
      obtain ⟨i1, l1, KK, e1, er⟩ := p_nxI hp
      have N1 := p_NKok (p_oneN (c := c) (v := v) (o := true) hz hn.2 h0 h1 hl0 hl1) e1
      obtain ⟨rest, hr⟩ := p_restP er
      have i0n : i0 < n := hlt i0 (by have q := (p_oneh e1).2.1; rw [q]; unfold h_cd; (repeat' split) <;> decide) h1
      refine la_go_R hS.1 14 [95, 114] ?_
      refine br_f (show ¬ (2400 + n ≤ X m_ 46) by omega) ?_
      show cw_C _ _ [vr m_, vi (2400 + n)] (X) _
      refine M_runs hn hz hc h0 h1 hl0 hl1 e1 (B0 := 20 * k) (by omega) hS x46 hB (fun (Y : cw_M) (s' : o_S) (ht : some s' = o_t KK KK.2.2.2.1.toNat s) (hSY : S_R Y m L0 u0 s') (y46 : Y m_ 46 = 2400 + i1 + 1) (hBY : O_B K0 c v n s' (20 * k + 20)) => ⟨hSY.1, ?_⟩) (fun (ht : none = o_t KK KK.2.2.2.1.toNat s) (Y : cw_M) (K L : Int → Int) (un : Int) (hY : la_ok Y) (hP : P_s (st_m m K L un) Y) hKo => ⟨hY, ?_⟩)
      · refine br_f (show ¬ ((1 : Int) = 0) by decide) ?_
        refine And.intro (show -2147483648 ≤ k + 1 ∧ k + 1 < 2147483648 by omega) ?_
        show cw_R _ _ 95 [vr m_, vi ua, vi (2400 + n), vi (k + 1), w4] [] (Y) _
        have hR2 : ∀ rest, Ks = (acc ++ [KK]) ++ rest → o_l rest (k + 1) s' = RR := fun rest hr2 => by rw [← hR (KK :: rest) (by rw [hr2, List.append_assoc]; rfl), o_lc ht.symm]
        rcases p_restI er with ⟨r1, r2, i3, l3, K3, r3, r4⟩ | ⟨r1, r2, r3⟩
        · have i1n := hlt i1 (by omega) (by omega)
          exact ih (k + 1) (i1 + 1) l1 (acc ++ [KK]) Y s' _ (by omega) (by omega) (by omega) (by omega) (by omega) (by omega) hSY (by omega) (by rw [show 20 * (k + 1) = 20 * k + 20 by omega]; exact hBY) (by unfold p_nx; rw [r3]; exact r4) hR2
        · exact done (k + 1) Y s' _ hSY hBY.1 (by omega) (by have := hR2 [] (by rw [r3, List.append_nil]); exact this.symm)
      · refine br_t (show (0 : Int) = 0 by decide) ?_
        show cw_R _ _ 114 [vr m_, vi ua, vi (2400 + n), vi k, w4] [] (Y) _
        exact fail k Y K L un _ hY hP hKo ⟨hk.1, by omega⟩ (by rw [← hR (KK :: rest) (by rw [hr, List.append_assoc]; rfl), o_le ht.symm])
  rw [← p_nx0] at hp
  exact lp 13 0 0 0 [] X s w4 (by omega) (by omega) (by omega) (by omega) (by omega) (by omega) hS (by omega) (by rw [Int.mul_zero]; exact hB) hp (fun rest e => by rw [← hR, e]; rfl)
