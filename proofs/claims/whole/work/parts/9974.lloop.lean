/-! The law goes through the script (wip/whole/tools/m174.py). -/
theorem L_loop {sc L : Int} {S : Int → Int} {X : cw_M} {Q : Option cw_V → cw_M → Prop} (hs0 : 0 < sc) (hs : sc < 33554432) (ht : cw_tg sc = 40) (hl : cw_ln sc = L) (hL : L ≤ 3072) (hL0 : 0 ≤ L) (hI0 : J_I 0 sc S X) (hQ : ∀ n X, J_I n sc S X → Q (some (vi 1)) X) : cw_R 201 k_L_law 18 [vr sc, vr x_, vr m_, vi 0] [] X Q := by
  have lp : ∀ (r : Nat) (n : Int) (X : cw_M), 600 < n + r → (0 ≤ n ∧ n ≤ 520) → (J_I n sc S X) → cw_R (201) k_L_law 18 [vr sc, vr x_, vr m_, vi (6 * n)] [] X Q := by
    intro r
    induction r with
    | zero =>
      intro n X hr hn hI
      omega
    | succ r ih =>
      intro n X hr hn hI
      refine la_go_RV hI.1.1 14 [20, 29] [18, 33] ?_
      refine And.intro (show 40 ≤ cw_tg sc by omega) ?_
      refine And.intro (show -2147483648 ≤ (cw_ln sc) - 6 ∧ (cw_ln sc) - 6 < 2147483648 by omega) ?_
      refine And.intro (fun (c21 : (cw_ln sc) - 6 < 6 * n) => ?_) (fun (c21 : ¬ ((cw_ln sc) - 6 < 6 * n)) => ?_)
      · refine And.intro (Or.inr rfl) ?_
        show Q (some (vi 1)) (X)
        exact hQ n X hI
      · refine And.intro (show cw_tg sc = 40 ∧ 0 ≤ 6 * n ∧ 6 * n < cw_ln sc by exact ⟨ht, by omega, by omega⟩) ?_
        show cw_R _ _ 33 [vr sc, vr x_, vr m_, vi (6 * n)] [vi (cw_iand (X sc (6 * n)) 63)] (X) _
        have nx : ∀ b, J_I (n + 1) sc S b → cw_R 201 k_L_law 1236 [vr sc, vr x_, vr m_, vi (6 * n)] [] b Q := by
          intro b hb
          refine la_go_RV hb.1.1 5 [] [18] ?_
          refine And.intro (show -2147483648 ≤ (6 * n) + 6 ∧ (6 * n) + 6 < 2147483648 by omega) ?_
          show cw_R _ _ 18 [vr sc, vr x_, vr m_, vi ((6 * n) + 6)] [] (b) _
          rw [show 6 * n + 6 = 6 * (n + 1) by omega]
          exact ih (n + 1) b (by omega) (by omega) hb
        generalize cw_iand (X sc (6 * n)) 63 = u
        refine la_ts rfl ?_
        by_cases k0 : u = 0
        · rw [k0]
          show cw_R _ _ 212 _ _ _ _
          exact L_name (by omega) hs0 hs ht hl hL (by omega) hI nx
        by_cases k1 : u = 1
        · rw [k1]
          show cw_R _ _ 255 _ _ _ _
          exact L_who (by omega) hs0 hs ht hl hL (by omega) hI nx
        by_cases k2 : u = 2
        · rw [k2]
          show cw_R _ _ 278 _ _ _ _
          exact L_join (by omega) hs0 hs ht hl hL (by omega) hI nx
        by_cases k3 : u = 3
        · rw [k3]
          show cw_R _ _ 311 _ _ _ _
          exact L_of (by omega) hs0 hs ht hl hL (by omega) hI nx
        by_cases k4 : u = 4
        · rw [k4]
          show cw_R _ _ 344 _ _ _ _
          exact L_terms (by omega) hs0 hs ht hl hL (by omega) hI nx
        by_cases k5 : u = 5
        · rw [k5]
          show cw_R _ _ 377 _ _ _ _
          exact L_feed (by omega) hs0 hs ht hl hL (by omega) hI nx
        by_cases k6 : u = 6
        · rw [k6]
          show cw_R _ _ 440 _ _ _ _
          exact L_end (by omega) hs0 hs ht hl hL (by omega) hI nx
        by_cases k7 : u = 7
        · rw [k7]
          show cw_R _ _ 463 _ _ _ _
          exact L_row (by omega) hs0 hs ht hl hL (by omega) hI nx
        by_cases k8 : u = 8
        · rw [k8]
          show cw_R _ _ 476 _ _ _ _
          exact L_blots (by omega) hs0 hs ht hl hL (by omega) hI nx
        by_cases k9 : u = 9
        · rw [k9]
          show cw_R _ _ 489 _ _ _ _
          exact L_law (by omega) hs0 hs ht hl hL (by omega) hI nx
        by_cases k10 : u = 10
        · rw [k10]
          show cw_R _ _ 502 _ _ _ _
          exact L_orders (by omega) hs0 hs ht hl hL (by omega) hI nx
        by_cases k11 : u = 11
        · rw [k11]
          show cw_R _ _ 515 _ _ _ _
          exact L_fault (by omega) hs0 hs ht hl hL (by omega) hI nx
        by_cases k12 : u = 12
        · rw [k12]
          show cw_R _ _ 528 _ _ _ _
          exact L_stopped (by omega) hs0 hs ht hl hL (by omega) hI nx
        by_cases k13 : u = 13
        · rw [k13]
          show cw_R _ _ 541 _ _ _ _
          exact L_force (by omega) hs0 hs ht hl hL (by omega) hI nx
        by_cases k14 : u = 14
        · rw [k14]
          show cw_R _ _ 564 _ _ _ _
          exact L_mark (by omega) hs0 hs ht hl hL (by omega) hI nx
        by_cases k15 : u = 15
        · rw [k15]
          show cw_R _ _ 597 _ _ _ _
          exact L_turn (by omega) hs0 hs ht hl hL (by omega) hI nx
        by_cases k16 : u = 16
        · rw [k16]
          show cw_R _ _ 630 _ _ _ _
          exact L_die (by omega) hs0 hs ht hl hL (by omega) hI nx
        by_cases k17 : u = 17
        · rw [k17]
          show cw_R _ _ 653 _ _ _ _
          exact L_pass (by omega) hs0 hs ht hl hL (by omega) hI nx
        by_cases k18 : u = 18
        · rw [k18]
          show cw_R _ _ 666 _ _ _ _
          exact L_undo (by omega) hs0 hs ht hl hL (by omega) hI nx
        by_cases k19 : u = 19
        · rw [k19]
          show cw_R _ _ 679 _ _ _ _
          exact L_readings (by omega) hs0 hs ht hl hL (by omega) hI nx
        by_cases k20 : u = 20
        · rw [k20]
          show cw_R _ _ 692 _ _ _ _
          exact L_depth (by omega) hs0 hs ht hl hL (by omega) hI nx
        by_cases k21 : u = 21
        · rw [k21]
          show cw_R _ _ 725 _ _ _ _
          exact L_gets (by omega) hs0 hs ht hl hL (by omega) hI nx
        by_cases k22 : u = 22
        · rw [k22]
          show cw_R _ _ 758 _ _ _ _
          exact L_lost (by omega) hs0 hs ht hl hL (by omega) hI nx
        by_cases k23 : u = 23
        · rw [k23]
          show cw_R _ _ 781 _ _ _ _
          exact L_range (by omega) hs0 hs ht hl hL (by omega) hI nx
        by_cases k24 : u = 24
        · rw [k24]
          show cw_R _ _ 814 _ _ _ _
          exact L_unlike (by omega) hs0 hs ht hl hL (by omega) hI nx
        by_cases k25 : u = 25
        · rw [k25]
          show cw_R _ _ 827 _ _ _ _
          exact L_settle (by omega) hs0 hs ht hl hL (by omega) hI nx
        by_cases k26 : u = 26
        · rw [k26]
          show cw_R _ _ 860 _ _ _ _
          exact L_fair (by omega) hs0 hs ht hl hL (by omega) hI nx
        by_cases k27 : u = 27
        · rw [k27]
          show cw_R _ _ 883 _ _ _ _
          exact L_told (by omega) hs0 hs ht hl hL (by omega) hI nx
        by_cases k28 : u = 28
        · rw [k28]
          show cw_R _ _ 916 _ _ _ _
          exact L_fits (by omega) hs0 hs ht hl hL (by omega) hI nx
        by_cases k29 : u = 29
        · rw [k29]
          show cw_R _ _ 939 _ _ _ _
          exact L_ask (by omega) hs0 hs ht hl hL (by omega) hI nx
        by_cases k30 : u = 30
        · rw [k30]
          show cw_R _ _ 962 _ _ _ _
          exact L_judge (by omega) hs0 hs ht hl hL (by omega) hI nx
        by_cases k31 : u = 31
        · rw [k31]
          show cw_R _ _ 985 _ _ _ _
          exact L_ruled (by omega) hs0 hs ht hl hL (by omega) hI nx
        by_cases k32 : u = 32
        · rw [k32]
          show cw_R _ _ 1008 _ _ _ _
          exact L_forget (by omega) hs0 hs ht hl hL (by omega) hI nx
        by_cases k33 : u = 33
        · rw [k33]
          show cw_R _ _ 1021 _ _ _ _
          exact L_few (by omega) hs0 hs ht hl hL (by omega) hI nx
        by_cases k34 : u = 34
        · rw [k34]
          show cw_R _ _ 1055 _ _ _ _
          exact L_compare (by omega) hs0 hs ht hl hL (by omega) hI nx
        by_cases k35 : u = 35
        · rw [k35]
          show cw_R _ _ 1098 _ _ _ _
          exact L_years (by omega) hs0 hs ht hl hL (by omega) hI nx
        by_cases k36 : u = 36
        · rw [k36]
          show cw_R _ _ 1131 _ _ _ _
          exact L_drawn (by omega) hs0 hs ht hl hL (by omega) hI nx
        by_cases k37 : u = 37
        · rw [k37]
          show cw_R _ _ 1154 _ _ _ _
          exact L_image (by omega) hs0 hs ht hl hL (by omega) hI nx
        by_cases k38 : u = 38
        · rw [k38]
          show cw_R _ _ 1177 _ _ _ _
          exact L_back (by omega) hs0 hs ht hl hL (by omega) hI nx
        by_cases k39 : u = 39
        · rw [k39]
          show cw_R _ _ 1200 _ _ _ _
          exact L_count (by omega) hs0 hs ht hl hL (by omega) hI nx
        by_cases k40 : u = 40
        · rw [k40]
          show cw_R _ _ 1223 _ _ _ _
          exact L_status (by omega) hs0 hs ht hl hL (by omega) hI nx
        rw [la_tsd (by omega)]
        show cw_R _ _ 1236 _ _ _ _
        exact nx X (J_0 (by omega) hI)
  exact lp 601 0 X (by omega) (by omega) hI0
