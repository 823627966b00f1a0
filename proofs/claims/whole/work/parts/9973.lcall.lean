/-! The law's calls, one after another (wip/whole/tools/m173.py). -/
theorem J_C1 {n sc : Int} {S : Int → Int} {sh : Int → cw_V} {D kc km : Nat} {as : List cw_V} {X : cw_M} {Q : Option cw_V → cw_M → Prop} (hP : J_P n sc S sh D kc km as) (hI : J_I n sc S X) (h : ∀ a x, la_ok a → a sc = S → cw_C D km (vr m_ :: as) a (fun r' b => r' = some (sh x) ∧ J_I (n + 1) sc S b) → Q (some (sh x)) a) : cw_C D kc (vr x_ :: as) X Q := by
  refine cw_C_mono (Nat.le_refl D) (fun r a q => ?_) (hP X hI)
  obtain ⟨q1, q2, ⟨x, q3⟩, q4⟩ := q
  subst q3
  exact h a x q1 q2 q4
theorem J_C2 {n sc : Int} {S : Int → Int} {v : cw_V} {D km : Nat} {as as' : List cw_V} {a : cw_M} {Q : Option cw_V → cw_M → Prop} (e : as' = as) (h2 : cw_C D km (vr m_ :: as) a (fun r' b => r' = some v ∧ J_I (n + 1) sc S b)) (h : ∀ b, J_I (n + 1) sc S b → Q (some v) b) : cw_C D km (vr m_ :: as') a Q := by
  subst e
  refine cw_C_mono (Nat.le_refl D) (fun r b q => ?_) h2
  rw [q.1]
  exact h b q.2
theorem L_name {n sc L i : Int} {S : Int → Int} {X : cw_M} {Q : Option cw_V → cw_M → Prop} (hn : n < 600) (hs0 : 0 < sc) (hs : sc < 33554432) (ht : cw_tg sc = 40) (hl : cw_ln sc = L) (hL : L ≤ 3072) (hi : 0 ≤ i ∧ i + 6 ≤ L) (hI : J_I n sc S X) (nx : ∀ b, J_I (n + 1) sc S b → cw_R 201 k_L_law 1236 [vr sc, vr x_, vr m_, vi i] [] b Q) : cw_R 201 k_L_law 212 [vr sc, vr x_, vr m_, vi i] [] X Q := by
  have hsX := J_s hI
  refine la_go_RV hI.1.1 38 [217, 222, 227, 236, 241, 246] [1236] ?_
  refine And.intro (show -2147483648 ≤ i + 1 ∧ i + 1 < 2147483648 by omega) ?_
  refine And.intro (show cw_tg sc = 40 ∧ 0 ≤ i + 1 ∧ i + 1 < cw_ln sc by exact ⟨ht, by omega, by omega⟩) ?_
  refine And.intro (show -2147483648 ≤ i + 2 ∧ i + 2 < 2147483648 by omega) ?_
  refine And.intro (show cw_tg sc = 40 ∧ 0 ≤ i + 2 ∧ i + 2 < cw_ln sc by exact ⟨ht, by omega, by omega⟩) ?_
  refine And.intro (show -2147483648 ≤ i + 3 ∧ i + 3 < 2147483648 by omega) ?_
  refine And.intro (show cw_tg sc = 40 ∧ 0 ≤ i + 3 ∧ i + 3 < cw_ln sc by exact ⟨ht, by omega, by omega⟩) ?_
  show cw_C _ _ [vr x_, vi (X sc (i + 1)), vi (X sc (i + 2)), vi (X sc (i + 3))] (X) _
  refine J_C1 (J_name hn hs) hI (fun (a : cw_M) (x : Int) (ha : la_ok a) has h2 => ⟨ha, ?_⟩)
  refine And.intro (show -2147483648 ≤ i + 1 ∧ i + 1 < 2147483648 by omega) ?_
  refine And.intro (show cw_tg sc = 40 ∧ 0 ≤ i + 1 ∧ i + 1 < cw_ln sc by exact ⟨ht, by omega, by omega⟩) ?_
  refine And.intro (show -2147483648 ≤ i + 2 ∧ i + 2 < 2147483648 by omega) ?_
  refine And.intro (show cw_tg sc = 40 ∧ 0 ≤ i + 2 ∧ i + 2 < cw_ln sc by exact ⟨ht, by omega, by omega⟩) ?_
  refine And.intro (show -2147483648 ≤ i + 3 ∧ i + 3 < 2147483648 by omega) ?_
  refine And.intro (show cw_tg sc = 40 ∧ 0 ≤ i + 3 ∧ i + 3 < cw_ln sc by exact ⟨ht, by omega, by omega⟩) ?_
  show cw_C _ _ [vr m_, vi (a sc (i + 1)), vi (a sc (i + 2)), vi (a sc (i + 3))] (a) _
  refine J_C2 (by rw [has, hsX]) h2 (fun (b : cw_M) hb => ⟨hb.1.1, ?_⟩)
  refine br_t (show x = x by rfl) ?_
  show cw_R _ _ 1236 [vr sc, vr x_, vr m_, vi i] [] (b) _
  exact nx b hb
theorem L_who {n sc L i : Int} {S : Int → Int} {X : cw_M} {Q : Option cw_V → cw_M → Prop} (hn : n < 600) (hs0 : 0 < sc) (hs : sc < 33554432) (ht : cw_tg sc = 40) (hl : cw_ln sc = L) (hL : L ≤ 3072) (hi : 0 ≤ i ∧ i + 6 ≤ L) (hI : J_I n sc S X) (nx : ∀ b, J_I (n + 1) sc S b → cw_R 201 k_L_law 1236 [vr sc, vr x_, vr m_, vi i] [] b Q) : cw_R 201 k_L_law 255 [vr sc, vr x_, vr m_, vi i] [] X Q := by
  have hsX := J_s hI
  refine la_go_RV hI.1.1 18 [260, 269] [1236] ?_
  refine And.intro (show -2147483648 ≤ i + 1 ∧ i + 1 < 2147483648 by omega) ?_
  refine And.intro (show cw_tg sc = 40 ∧ 0 ≤ i + 1 ∧ i + 1 < cw_ln sc by exact ⟨ht, by omega, by omega⟩) ?_
  show cw_C _ _ [vr x_, vi (X sc (i + 1))] (X) _
  refine J_C1 (J_who hn hs) hI (fun (a : cw_M) (x : Int) (ha : la_ok a) has h2 => ⟨ha, ?_⟩)
  refine And.intro (show -2147483648 ≤ i + 1 ∧ i + 1 < 2147483648 by omega) ?_
  refine And.intro (show cw_tg sc = 40 ∧ 0 ≤ i + 1 ∧ i + 1 < cw_ln sc by exact ⟨ht, by omega, by omega⟩) ?_
  show cw_C _ _ [vr m_, vi (a sc (i + 1))] (a) _
  refine J_C2 (by rw [has, hsX]) h2 (fun (b : cw_M) hb => ⟨hb.1.1, ?_⟩)
  refine br_t (show x = x by rfl) ?_
  show cw_R _ _ 1236 [vr sc, vr x_, vr m_, vi i] [] (b) _
  exact nx b hb
theorem L_join {n sc L i : Int} {S : Int → Int} {X : cw_M} {Q : Option cw_V → cw_M → Prop} (hn : n < 600) (hs0 : 0 < sc) (hs : sc < 33554432) (ht : cw_tg sc = 40) (hl : cw_ln sc = L) (hL : L ≤ 3072) (hi : 0 ≤ i ∧ i + 6 ≤ L) (hI : J_I n sc S X) (nx : ∀ b, J_I (n + 1) sc S b → cw_R 201 k_L_law 1236 [vr sc, vr x_, vr m_, vi i] [] b Q) : cw_R 201 k_L_law 278 [vr sc, vr x_, vr m_, vi i] [] X Q := by
  have hsX := J_s hI
  refine la_go_RV hI.1.1 28 [283, 288, 297, 302] [1236] ?_
  refine And.intro (show -2147483648 ≤ i + 1 ∧ i + 1 < 2147483648 by omega) ?_
  refine And.intro (show cw_tg sc = 40 ∧ 0 ≤ i + 1 ∧ i + 1 < cw_ln sc by exact ⟨ht, by omega, by omega⟩) ?_
  refine And.intro (show -2147483648 ≤ i + 2 ∧ i + 2 < 2147483648 by omega) ?_
  refine And.intro (show cw_tg sc = 40 ∧ 0 ≤ i + 2 ∧ i + 2 < cw_ln sc by exact ⟨ht, by omega, by omega⟩) ?_
  show cw_C _ _ [vr x_, vi (X sc (i + 1)), vi (X sc (i + 2))] (X) _
  refine J_C1 (J_join hn hs) hI (fun (a : cw_M) (x : Int) (ha : la_ok a) has h2 => ⟨ha, ?_⟩)
  refine And.intro (show -2147483648 ≤ i + 1 ∧ i + 1 < 2147483648 by omega) ?_
  refine And.intro (show cw_tg sc = 40 ∧ 0 ≤ i + 1 ∧ i + 1 < cw_ln sc by exact ⟨ht, by omega, by omega⟩) ?_
  refine And.intro (show -2147483648 ≤ i + 2 ∧ i + 2 < 2147483648 by omega) ?_
  refine And.intro (show cw_tg sc = 40 ∧ 0 ≤ i + 2 ∧ i + 2 < cw_ln sc by exact ⟨ht, by omega, by omega⟩) ?_
  show cw_C _ _ [vr m_, vi (a sc (i + 1)), vi (a sc (i + 2))] (a) _
  refine J_C2 (by rw [has, hsX]) h2 (fun (b : cw_M) hb => ⟨hb.1.1, ?_⟩)
  refine br_t (show x = x by rfl) ?_
  show cw_R _ _ 1236 [vr sc, vr x_, vr m_, vi i] [] (b) _
  exact nx b hb
theorem L_of {n sc L i : Int} {S : Int → Int} {X : cw_M} {Q : Option cw_V → cw_M → Prop} (hn : n < 600) (hs0 : 0 < sc) (hs : sc < 33554432) (ht : cw_tg sc = 40) (hl : cw_ln sc = L) (hL : L ≤ 3072) (hi : 0 ≤ i ∧ i + 6 ≤ L) (hI : J_I n sc S X) (nx : ∀ b, J_I (n + 1) sc S b → cw_R 201 k_L_law 1236 [vr sc, vr x_, vr m_, vi i] [] b Q) : cw_R 201 k_L_law 311 [vr sc, vr x_, vr m_, vi i] [] X Q := by
  have hsX := J_s hI
  refine la_go_RV hI.1.1 28 [316, 321, 330, 335] [1236] ?_
  refine And.intro (show -2147483648 ≤ i + 1 ∧ i + 1 < 2147483648 by omega) ?_
  refine And.intro (show cw_tg sc = 40 ∧ 0 ≤ i + 1 ∧ i + 1 < cw_ln sc by exact ⟨ht, by omega, by omega⟩) ?_
  refine And.intro (show -2147483648 ≤ i + 2 ∧ i + 2 < 2147483648 by omega) ?_
  refine And.intro (show cw_tg sc = 40 ∧ 0 ≤ i + 2 ∧ i + 2 < cw_ln sc by exact ⟨ht, by omega, by omega⟩) ?_
  show cw_C _ _ [vr x_, vi (X sc (i + 1)), vi (X sc (i + 2))] (X) _
  refine J_C1 (J_of hn hs) hI (fun (a : cw_M) (x : Int) (ha : la_ok a) has h2 => ⟨ha, ?_⟩)
  refine And.intro (show -2147483648 ≤ i + 1 ∧ i + 1 < 2147483648 by omega) ?_
  refine And.intro (show cw_tg sc = 40 ∧ 0 ≤ i + 1 ∧ i + 1 < cw_ln sc by exact ⟨ht, by omega, by omega⟩) ?_
  refine And.intro (show -2147483648 ≤ i + 2 ∧ i + 2 < 2147483648 by omega) ?_
  refine And.intro (show cw_tg sc = 40 ∧ 0 ≤ i + 2 ∧ i + 2 < cw_ln sc by exact ⟨ht, by omega, by omega⟩) ?_
  show cw_C _ _ [vr m_, vi (a sc (i + 1)), vi (a sc (i + 2))] (a) _
  refine J_C2 (by rw [has, hsX]) h2 (fun (b : cw_M) hb => ⟨hb.1.1, ?_⟩)
  refine br_t (show x = x by rfl) ?_
  show cw_R _ _ 1236 [vr sc, vr x_, vr m_, vi i] [] (b) _
  exact nx b hb
theorem L_terms {n sc L i : Int} {S : Int → Int} {X : cw_M} {Q : Option cw_V → cw_M → Prop} (hn : n < 600) (hs0 : 0 < sc) (hs : sc < 33554432) (ht : cw_tg sc = 40) (hl : cw_ln sc = L) (hL : L ≤ 3072) (hi : 0 ≤ i ∧ i + 6 ≤ L) (hI : J_I n sc S X) (nx : ∀ b, J_I (n + 1) sc S b → cw_R 201 k_L_law 1236 [vr sc, vr x_, vr m_, vi i] [] b Q) : cw_R 201 k_L_law 344 [vr sc, vr x_, vr m_, vi i] [] X Q := by
  have hsX := J_s hI
  refine la_go_RV hI.1.1 28 [349, 354, 363, 368] [1236] ?_
  refine And.intro (show -2147483648 ≤ i + 1 ∧ i + 1 < 2147483648 by omega) ?_
  refine And.intro (show cw_tg sc = 40 ∧ 0 ≤ i + 1 ∧ i + 1 < cw_ln sc by exact ⟨ht, by omega, by omega⟩) ?_
  refine And.intro (show -2147483648 ≤ i + 2 ∧ i + 2 < 2147483648 by omega) ?_
  refine And.intro (show cw_tg sc = 40 ∧ 0 ≤ i + 2 ∧ i + 2 < cw_ln sc by exact ⟨ht, by omega, by omega⟩) ?_
  show cw_C _ _ [vr x_, vi (X sc (i + 1)), vi (X sc (i + 2))] (X) _
  refine J_C1 (J_terms hn hs) hI (fun (a : cw_M) (x : Int) (ha : la_ok a) has h2 => ⟨ha, ?_⟩)
  refine And.intro (show -2147483648 ≤ i + 1 ∧ i + 1 < 2147483648 by omega) ?_
  refine And.intro (show cw_tg sc = 40 ∧ 0 ≤ i + 1 ∧ i + 1 < cw_ln sc by exact ⟨ht, by omega, by omega⟩) ?_
  refine And.intro (show -2147483648 ≤ i + 2 ∧ i + 2 < 2147483648 by omega) ?_
  refine And.intro (show cw_tg sc = 40 ∧ 0 ≤ i + 2 ∧ i + 2 < cw_ln sc by exact ⟨ht, by omega, by omega⟩) ?_
  show cw_C _ _ [vr m_, vi (a sc (i + 1)), vi (a sc (i + 2))] (a) _
  refine J_C2 (by rw [has, hsX]) h2 (fun (b : cw_M) hb => ⟨hb.1.1, ?_⟩)
  refine br_t (show x = x by rfl) ?_
  show cw_R _ _ 1236 [vr sc, vr x_, vr m_, vi i] [] (b) _
  exact nx b hb
theorem L_feed {n sc L i : Int} {S : Int → Int} {X : cw_M} {Q : Option cw_V → cw_M → Prop} (hn : n < 600) (hs0 : 0 < sc) (hs : sc < 33554432) (ht : cw_tg sc = 40) (hl : cw_ln sc = L) (hL : L ≤ 3072) (hi : 0 ≤ i ∧ i + 6 ≤ L) (hI : J_I n sc S X) (nx : ∀ b, J_I (n + 1) sc S b → cw_R 201 k_L_law 1236 [vr sc, vr x_, vr m_, vi i] [] b Q) : cw_R 201 k_L_law 377 [vr sc, vr x_, vr m_, vi i] [] X Q := by
  have hsX := J_s hI
  refine la_go_RV hI.1.1 58 [382, 387, 392, 397, 402, 411, 416, 421, 426, 431] [1236] ?_
  refine And.intro (show -2147483648 ≤ i + 1 ∧ i + 1 < 2147483648 by omega) ?_
  refine And.intro (show cw_tg sc = 40 ∧ 0 ≤ i + 1 ∧ i + 1 < cw_ln sc by exact ⟨ht, by omega, by omega⟩) ?_
  refine And.intro (show -2147483648 ≤ i + 2 ∧ i + 2 < 2147483648 by omega) ?_
  refine And.intro (show cw_tg sc = 40 ∧ 0 ≤ i + 2 ∧ i + 2 < cw_ln sc by exact ⟨ht, by omega, by omega⟩) ?_
  refine And.intro (show -2147483648 ≤ i + 3 ∧ i + 3 < 2147483648 by omega) ?_
  refine And.intro (show cw_tg sc = 40 ∧ 0 ≤ i + 3 ∧ i + 3 < cw_ln sc by exact ⟨ht, by omega, by omega⟩) ?_
  refine And.intro (show -2147483648 ≤ i + 4 ∧ i + 4 < 2147483648 by omega) ?_
  refine And.intro (show cw_tg sc = 40 ∧ 0 ≤ i + 4 ∧ i + 4 < cw_ln sc by exact ⟨ht, by omega, by omega⟩) ?_
  refine And.intro (show -2147483648 ≤ i + 5 ∧ i + 5 < 2147483648 by omega) ?_
  refine And.intro (show cw_tg sc = 40 ∧ 0 ≤ i + 5 ∧ i + 5 < cw_ln sc by exact ⟨ht, by omega, by omega⟩) ?_
  show cw_C _ _ [vr x_, vi (X sc (i + 1)), vi (X sc (i + 2)), vi (X sc (i + 3)), vi (X sc (i + 4)), vi (X sc (i + 5))] (X) _
  refine J_C1 (J_feed hn hs) hI (fun (a : cw_M) (x : Int) (ha : la_ok a) has h2 => ⟨ha, ?_⟩)
  refine And.intro (show -2147483648 ≤ i + 1 ∧ i + 1 < 2147483648 by omega) ?_
  refine And.intro (show cw_tg sc = 40 ∧ 0 ≤ i + 1 ∧ i + 1 < cw_ln sc by exact ⟨ht, by omega, by omega⟩) ?_
  refine And.intro (show -2147483648 ≤ i + 2 ∧ i + 2 < 2147483648 by omega) ?_
  refine And.intro (show cw_tg sc = 40 ∧ 0 ≤ i + 2 ∧ i + 2 < cw_ln sc by exact ⟨ht, by omega, by omega⟩) ?_
  refine And.intro (show -2147483648 ≤ i + 3 ∧ i + 3 < 2147483648 by omega) ?_
  refine And.intro (show cw_tg sc = 40 ∧ 0 ≤ i + 3 ∧ i + 3 < cw_ln sc by exact ⟨ht, by omega, by omega⟩) ?_
  refine And.intro (show -2147483648 ≤ i + 4 ∧ i + 4 < 2147483648 by omega) ?_
  refine And.intro (show cw_tg sc = 40 ∧ 0 ≤ i + 4 ∧ i + 4 < cw_ln sc by exact ⟨ht, by omega, by omega⟩) ?_
  refine And.intro (show -2147483648 ≤ i + 5 ∧ i + 5 < 2147483648 by omega) ?_
  refine And.intro (show cw_tg sc = 40 ∧ 0 ≤ i + 5 ∧ i + 5 < cw_ln sc by exact ⟨ht, by omega, by omega⟩) ?_
  show cw_C _ _ [vr m_, vi (a sc (i + 1)), vi (a sc (i + 2)), vi (a sc (i + 3)), vi (a sc (i + 4)), vi (a sc (i + 5))] (a) _
  refine J_C2 (by rw [has, hsX]) h2 (fun (b : cw_M) hb => ⟨hb.1.1, ?_⟩)
  refine br_t (show x = x by rfl) ?_
  show cw_R _ _ 1236 [vr sc, vr x_, vr m_, vi i] [] (b) _
  exact nx b hb
theorem L_end {n sc L i : Int} {S : Int → Int} {X : cw_M} {Q : Option cw_V → cw_M → Prop} (hn : n < 600) (hs0 : 0 < sc) (hs : sc < 33554432) (ht : cw_tg sc = 40) (hl : cw_ln sc = L) (hL : L ≤ 3072) (hi : 0 ≤ i ∧ i + 6 ≤ L) (hI : J_I n sc S X) (nx : ∀ b, J_I (n + 1) sc S b → cw_R 201 k_L_law 1236 [vr sc, vr x_, vr m_, vi i] [] b Q) : cw_R 201 k_L_law 440 [vr sc, vr x_, vr m_, vi i] [] X Q := by
  have hsX := J_s hI
  refine la_go_RV hI.1.1 18 [445, 454] [1236] ?_
  refine And.intro (show -2147483648 ≤ i + 1 ∧ i + 1 < 2147483648 by omega) ?_
  refine And.intro (show cw_tg sc = 40 ∧ 0 ≤ i + 1 ∧ i + 1 < cw_ln sc by exact ⟨ht, by omega, by omega⟩) ?_
  show cw_C _ _ [vr x_, vi (X sc (i + 1))] (X) _
  refine J_C1 (J_end hn hs) hI (fun (a : cw_M) (x : Int) (ha : la_ok a) has h2 => ⟨ha, ?_⟩)
  refine And.intro (show -2147483648 ≤ i + 1 ∧ i + 1 < 2147483648 by omega) ?_
  refine And.intro (show cw_tg sc = 40 ∧ 0 ≤ i + 1 ∧ i + 1 < cw_ln sc by exact ⟨ht, by omega, by omega⟩) ?_
  show cw_C _ _ [vr m_, vi (a sc (i + 1))] (a) _
  refine J_C2 (by rw [has, hsX]) h2 (fun (b : cw_M) hb => ⟨hb.1.1, ?_⟩)
  refine br_t (show x = x by rfl) ?_
  show cw_R _ _ 1236 [vr sc, vr x_, vr m_, vi i] [] (b) _
  exact nx b hb
theorem L_row {n sc L i : Int} {S : Int → Int} {X : cw_M} {Q : Option cw_V → cw_M → Prop} (hn : n < 600) (hs0 : 0 < sc) (hs : sc < 33554432) (ht : cw_tg sc = 40) (hl : cw_ln sc = L) (hL : L ≤ 3072) (hi : 0 ≤ i ∧ i + 6 ≤ L) (hI : J_I n sc S X) (nx : ∀ b, J_I (n + 1) sc S b → cw_R 201 k_L_law 1236 [vr sc, vr x_, vr m_, vi i] [] b Q) : cw_R 201 k_L_law 463 [vr sc, vr x_, vr m_, vi i] [] X Q := by
  have hsX := J_s hI
  refine la_go_RV hI.1.1 8 [] [1236] ?_
  show cw_C _ _ [vr x_] (X) _
  refine J_C1 (J_row hn hs) hI (fun (a : cw_M) (x : Int) (ha : la_ok a) has h2 => ⟨ha, ?_⟩)
  show cw_C _ _ [vr m_] (a) _
  refine J_C2 rfl h2 (fun (b : cw_M) hb => ⟨hb.1.1, ?_⟩)
  refine br_t (show x = x by rfl) ?_
  show cw_R _ _ 1236 [vr sc, vr x_, vr m_, vi i] [] (b) _
  exact nx b hb
theorem L_blots {n sc L i : Int} {S : Int → Int} {X : cw_M} {Q : Option cw_V → cw_M → Prop} (hn : n < 600) (hs0 : 0 < sc) (hs : sc < 33554432) (ht : cw_tg sc = 40) (hl : cw_ln sc = L) (hL : L ≤ 3072) (hi : 0 ≤ i ∧ i + 6 ≤ L) (hI : J_I n sc S X) (nx : ∀ b, J_I (n + 1) sc S b → cw_R 201 k_L_law 1236 [vr sc, vr x_, vr m_, vi i] [] b Q) : cw_R 201 k_L_law 476 [vr sc, vr x_, vr m_, vi i] [] X Q := by
  have hsX := J_s hI
  refine la_go_RV hI.1.1 8 [] [1236] ?_
  show cw_C _ _ [vr x_] (X) _
  refine J_C1 (J_blots hn hs) hI (fun (a : cw_M) (x : Int) (ha : la_ok a) has h2 => ⟨ha, ?_⟩)
  show cw_C _ _ [vr m_] (a) _
  refine J_C2 rfl h2 (fun (b : cw_M) hb => ⟨hb.1.1, ?_⟩)
  refine br_t (show x = x by rfl) ?_
  show cw_R _ _ 1236 [vr sc, vr x_, vr m_, vi i] [] (b) _
  exact nx b hb
theorem L_law {n sc L i : Int} {S : Int → Int} {X : cw_M} {Q : Option cw_V → cw_M → Prop} (hn : n < 600) (hs0 : 0 < sc) (hs : sc < 33554432) (ht : cw_tg sc = 40) (hl : cw_ln sc = L) (hL : L ≤ 3072) (hi : 0 ≤ i ∧ i + 6 ≤ L) (hI : J_I n sc S X) (nx : ∀ b, J_I (n + 1) sc S b → cw_R 201 k_L_law 1236 [vr sc, vr x_, vr m_, vi i] [] b Q) : cw_R 201 k_L_law 489 [vr sc, vr x_, vr m_, vi i] [] X Q := by
  have hsX := J_s hI
  refine la_go_RV hI.1.1 8 [] [1236] ?_
  show cw_C _ _ [vr x_] (X) _
  refine J_C1 (J_law hn hs hs0) hI (fun (a : cw_M) (x : Int) (ha : la_ok a) has h2 => ⟨ha, ?_⟩)
  show cw_C _ _ [vr m_] (a) _
  refine J_C2 rfl h2 (fun (b : cw_M) hb => ⟨hb.1.1, ?_⟩)
  refine br_t (show x = x by rfl) ?_
  show cw_R _ _ 1236 [vr sc, vr x_, vr m_, vi i] [] (b) _
  exact nx b hb
theorem L_orders {n sc L i : Int} {S : Int → Int} {X : cw_M} {Q : Option cw_V → cw_M → Prop} (hn : n < 600) (hs0 : 0 < sc) (hs : sc < 33554432) (ht : cw_tg sc = 40) (hl : cw_ln sc = L) (hL : L ≤ 3072) (hi : 0 ≤ i ∧ i + 6 ≤ L) (hI : J_I n sc S X) (nx : ∀ b, J_I (n + 1) sc S b → cw_R 201 k_L_law 1236 [vr sc, vr x_, vr m_, vi i] [] b Q) : cw_R 201 k_L_law 502 [vr sc, vr x_, vr m_, vi i] [] X Q := by
  have hsX := J_s hI
  refine la_go_RV hI.1.1 8 [] [1236] ?_
  show cw_C _ _ [vr x_] (X) _
  refine J_C1 (J_orders hn hs) hI (fun (a : cw_M) (x : Int) (ha : la_ok a) has h2 => ⟨ha, ?_⟩)
  show cw_C _ _ [vr m_] (a) _
  refine J_C2 rfl h2 (fun (b : cw_M) hb => ⟨hb.1.1, ?_⟩)
  refine br_t (show x = x by rfl) ?_
  show cw_R _ _ 1236 [vr sc, vr x_, vr m_, vi i] [] (b) _
  exact nx b hb
theorem L_fault {n sc L i : Int} {S : Int → Int} {X : cw_M} {Q : Option cw_V → cw_M → Prop} (hn : n < 600) (hs0 : 0 < sc) (hs : sc < 33554432) (ht : cw_tg sc = 40) (hl : cw_ln sc = L) (hL : L ≤ 3072) (hi : 0 ≤ i ∧ i + 6 ≤ L) (hI : J_I n sc S X) (nx : ∀ b, J_I (n + 1) sc S b → cw_R 201 k_L_law 1236 [vr sc, vr x_, vr m_, vi i] [] b Q) : cw_R 201 k_L_law 515 [vr sc, vr x_, vr m_, vi i] [] X Q := by
  have hsX := J_s hI
  refine la_go_RV hI.1.1 8 [] [1236] ?_
  show cw_C _ _ [vr x_] (X) _
  refine J_C1 (J_fault hn hs) hI (fun (a : cw_M) (x : Int) (ha : la_ok a) has h2 => ⟨ha, ?_⟩)
  show cw_C _ _ [vr m_] (a) _
  refine J_C2 rfl h2 (fun (b : cw_M) hb => ⟨hb.1.1, ?_⟩)
  refine br_t (show x = x by rfl) ?_
  show cw_R _ _ 1236 [vr sc, vr x_, vr m_, vi i] [] (b) _
  exact nx b hb
theorem L_stopped {n sc L i : Int} {S : Int → Int} {X : cw_M} {Q : Option cw_V → cw_M → Prop} (hn : n < 600) (hs0 : 0 < sc) (hs : sc < 33554432) (ht : cw_tg sc = 40) (hl : cw_ln sc = L) (hL : L ≤ 3072) (hi : 0 ≤ i ∧ i + 6 ≤ L) (hI : J_I n sc S X) (nx : ∀ b, J_I (n + 1) sc S b → cw_R 201 k_L_law 1236 [vr sc, vr x_, vr m_, vi i] [] b Q) : cw_R 201 k_L_law 528 [vr sc, vr x_, vr m_, vi i] [] X Q := by
  have hsX := J_s hI
  refine la_go_RV hI.1.1 8 [] [1236] ?_
  show cw_C _ _ [vr x_] (X) _
  refine J_C1 (J_stopped hn hs) hI (fun (a : cw_M) (x : Int) (ha : la_ok a) has h2 => ⟨ha, ?_⟩)
  show cw_C _ _ [vr m_] (a) _
  refine J_C2 rfl h2 (fun (b : cw_M) hb => ⟨hb.1.1, ?_⟩)
  refine br_t (show x = x by rfl) ?_
  show cw_R _ _ 1236 [vr sc, vr x_, vr m_, vi i] [] (b) _
  exact nx b hb
theorem L_force {n sc L i : Int} {S : Int → Int} {X : cw_M} {Q : Option cw_V → cw_M → Prop} (hn : n < 600) (hs0 : 0 < sc) (hs : sc < 33554432) (ht : cw_tg sc = 40) (hl : cw_ln sc = L) (hL : L ≤ 3072) (hi : 0 ≤ i ∧ i + 6 ≤ L) (hI : J_I n sc S X) (nx : ∀ b, J_I (n + 1) sc S b → cw_R 201 k_L_law 1236 [vr sc, vr x_, vr m_, vi i] [] b Q) : cw_R 201 k_L_law 541 [vr sc, vr x_, vr m_, vi i] [] X Q := by
  have hsX := J_s hI
  refine la_go_RV hI.1.1 18 [546, 555] [1236] ?_
  refine And.intro (show -2147483648 ≤ i + 1 ∧ i + 1 < 2147483648 by omega) ?_
  refine And.intro (show cw_tg sc = 40 ∧ 0 ≤ i + 1 ∧ i + 1 < cw_ln sc by exact ⟨ht, by omega, by omega⟩) ?_
  show cw_C _ _ [vr x_, vi (X sc (i + 1))] (X) _
  refine J_C1 (J_force hn hs) hI (fun (a : cw_M) (x : Int) (ha : la_ok a) has h2 => ⟨ha, ?_⟩)
  refine And.intro (show -2147483648 ≤ i + 1 ∧ i + 1 < 2147483648 by omega) ?_
  refine And.intro (show cw_tg sc = 40 ∧ 0 ≤ i + 1 ∧ i + 1 < cw_ln sc by exact ⟨ht, by omega, by omega⟩) ?_
  show cw_C _ _ [vr m_, vi (a sc (i + 1))] (a) _
  refine J_C2 (by rw [has, hsX]) h2 (fun (b : cw_M) hb => ⟨hb.1.1, ?_⟩)
  refine br_t (show x = x by rfl) ?_
  show cw_R _ _ 1236 [vr sc, vr x_, vr m_, vi i] [] (b) _
  exact nx b hb
theorem L_mark {n sc L i : Int} {S : Int → Int} {X : cw_M} {Q : Option cw_V → cw_M → Prop} (hn : n < 600) (hs0 : 0 < sc) (hs : sc < 33554432) (ht : cw_tg sc = 40) (hl : cw_ln sc = L) (hL : L ≤ 3072) (hi : 0 ≤ i ∧ i + 6 ≤ L) (hI : J_I n sc S X) (nx : ∀ b, J_I (n + 1) sc S b → cw_R 201 k_L_law 1236 [vr sc, vr x_, vr m_, vi i] [] b Q) : cw_R 201 k_L_law 564 [vr sc, vr x_, vr m_, vi i] [] X Q := by
  have hsX := J_s hI
  refine la_go_RV hI.1.1 28 [569, 574, 583, 588] [1236] ?_
  refine And.intro (show -2147483648 ≤ i + 1 ∧ i + 1 < 2147483648 by omega) ?_
  refine And.intro (show cw_tg sc = 40 ∧ 0 ≤ i + 1 ∧ i + 1 < cw_ln sc by exact ⟨ht, by omega, by omega⟩) ?_
  refine And.intro (show -2147483648 ≤ i + 2 ∧ i + 2 < 2147483648 by omega) ?_
  refine And.intro (show cw_tg sc = 40 ∧ 0 ≤ i + 2 ∧ i + 2 < cw_ln sc by exact ⟨ht, by omega, by omega⟩) ?_
  show cw_C _ _ [vr x_, vi (X sc (i + 1)), vi (X sc (i + 2))] (X) _
  refine J_C1 (J_mark hn hs) hI (fun (a : cw_M) (x : Int) (ha : la_ok a) has h2 => ⟨ha, ?_⟩)
  refine And.intro (show -2147483648 ≤ i + 1 ∧ i + 1 < 2147483648 by omega) ?_
  refine And.intro (show cw_tg sc = 40 ∧ 0 ≤ i + 1 ∧ i + 1 < cw_ln sc by exact ⟨ht, by omega, by omega⟩) ?_
  refine And.intro (show -2147483648 ≤ i + 2 ∧ i + 2 < 2147483648 by omega) ?_
  refine And.intro (show cw_tg sc = 40 ∧ 0 ≤ i + 2 ∧ i + 2 < cw_ln sc by exact ⟨ht, by omega, by omega⟩) ?_
  show cw_C _ _ [vr m_, vi (a sc (i + 1)), vi (a sc (i + 2))] (a) _
  refine J_C2 (by rw [has, hsX]) h2 (fun (b : cw_M) hb => ⟨hb.1.1, ?_⟩)
  refine br_t (show x = x by rfl) ?_
  show cw_R _ _ 1236 [vr sc, vr x_, vr m_, vi i] [] (b) _
  exact nx b hb
theorem L_turn {n sc L i : Int} {S : Int → Int} {X : cw_M} {Q : Option cw_V → cw_M → Prop} (hn : n < 600) (hs0 : 0 < sc) (hs : sc < 33554432) (ht : cw_tg sc = 40) (hl : cw_ln sc = L) (hL : L ≤ 3072) (hi : 0 ≤ i ∧ i + 6 ≤ L) (hI : J_I n sc S X) (nx : ∀ b, J_I (n + 1) sc S b → cw_R 201 k_L_law 1236 [vr sc, vr x_, vr m_, vi i] [] b Q) : cw_R 201 k_L_law 597 [vr sc, vr x_, vr m_, vi i] [] X Q := by
  have hsX := J_s hI
  refine la_go_RV hI.1.1 28 [602, 607, 616, 621] [1236] ?_
  refine And.intro (show -2147483648 ≤ i + 1 ∧ i + 1 < 2147483648 by omega) ?_
  refine And.intro (show cw_tg sc = 40 ∧ 0 ≤ i + 1 ∧ i + 1 < cw_ln sc by exact ⟨ht, by omega, by omega⟩) ?_
  refine And.intro (show -2147483648 ≤ i + 2 ∧ i + 2 < 2147483648 by omega) ?_
  refine And.intro (show cw_tg sc = 40 ∧ 0 ≤ i + 2 ∧ i + 2 < cw_ln sc by exact ⟨ht, by omega, by omega⟩) ?_
  show cw_C _ _ [vr x_, vi (X sc (i + 1)), vi (X sc (i + 2))] (X) _
  refine J_C1 (J_turn hn hs) hI (fun (a : cw_M) (x : Int) (ha : la_ok a) has h2 => ⟨ha, ?_⟩)
  refine And.intro (show -2147483648 ≤ i + 1 ∧ i + 1 < 2147483648 by omega) ?_
  refine And.intro (show cw_tg sc = 40 ∧ 0 ≤ i + 1 ∧ i + 1 < cw_ln sc by exact ⟨ht, by omega, by omega⟩) ?_
  refine And.intro (show -2147483648 ≤ i + 2 ∧ i + 2 < 2147483648 by omega) ?_
  refine And.intro (show cw_tg sc = 40 ∧ 0 ≤ i + 2 ∧ i + 2 < cw_ln sc by exact ⟨ht, by omega, by omega⟩) ?_
  show cw_C _ _ [vr m_, vi (a sc (i + 1)), vi (a sc (i + 2))] (a) _
  refine J_C2 (by rw [has, hsX]) h2 (fun (b : cw_M) hb => ⟨hb.1.1, ?_⟩)
  refine br_t (show x = x by rfl) ?_
  show cw_R _ _ 1236 [vr sc, vr x_, vr m_, vi i] [] (b) _
  exact nx b hb
theorem L_die {n sc L i : Int} {S : Int → Int} {X : cw_M} {Q : Option cw_V → cw_M → Prop} (hn : n < 600) (hs0 : 0 < sc) (hs : sc < 33554432) (ht : cw_tg sc = 40) (hl : cw_ln sc = L) (hL : L ≤ 3072) (hi : 0 ≤ i ∧ i + 6 ≤ L) (hI : J_I n sc S X) (nx : ∀ b, J_I (n + 1) sc S b → cw_R 201 k_L_law 1236 [vr sc, vr x_, vr m_, vi i] [] b Q) : cw_R 201 k_L_law 630 [vr sc, vr x_, vr m_, vi i] [] X Q := by
  have hsX := J_s hI
  refine la_go_RV hI.1.1 18 [635, 644] [1236] ?_
  refine And.intro (show -2147483648 ≤ i + 1 ∧ i + 1 < 2147483648 by omega) ?_
  refine And.intro (show cw_tg sc = 40 ∧ 0 ≤ i + 1 ∧ i + 1 < cw_ln sc by exact ⟨ht, by omega, by omega⟩) ?_
  show cw_C _ _ [vr x_, vi (X sc (i + 1))] (X) _
  refine J_C1 (J_die hn hs) hI (fun (a : cw_M) (x : Int) (ha : la_ok a) has h2 => ⟨ha, ?_⟩)
  refine And.intro (show -2147483648 ≤ i + 1 ∧ i + 1 < 2147483648 by omega) ?_
  refine And.intro (show cw_tg sc = 40 ∧ 0 ≤ i + 1 ∧ i + 1 < cw_ln sc by exact ⟨ht, by omega, by omega⟩) ?_
  show cw_C _ _ [vr m_, vi (a sc (i + 1))] (a) _
  refine J_C2 (by rw [has, hsX]) h2 (fun (b : cw_M) hb => ⟨hb.1.1, ?_⟩)
  refine br_t (show x = x by rfl) ?_
  show cw_R _ _ 1236 [vr sc, vr x_, vr m_, vi i] [] (b) _
  exact nx b hb
theorem L_pass {n sc L i : Int} {S : Int → Int} {X : cw_M} {Q : Option cw_V → cw_M → Prop} (hn : n < 600) (hs0 : 0 < sc) (hs : sc < 33554432) (ht : cw_tg sc = 40) (hl : cw_ln sc = L) (hL : L ≤ 3072) (hi : 0 ≤ i ∧ i + 6 ≤ L) (hI : J_I n sc S X) (nx : ∀ b, J_I (n + 1) sc S b → cw_R 201 k_L_law 1236 [vr sc, vr x_, vr m_, vi i] [] b Q) : cw_R 201 k_L_law 653 [vr sc, vr x_, vr m_, vi i] [] X Q := by
  have hsX := J_s hI
  refine la_go_RV hI.1.1 8 [] [1236] ?_
  show cw_C _ _ [vr x_] (X) _
  refine J_C1 (J_pass hn hs) hI (fun (a : cw_M) (x : Int) (ha : la_ok a) has h2 => ⟨ha, ?_⟩)
  show cw_C _ _ [vr m_] (a) _
  refine J_C2 rfl h2 (fun (b : cw_M) hb => ⟨hb.1.1, ?_⟩)
  refine br_t (show x = x by rfl) ?_
  show cw_R _ _ 1236 [vr sc, vr x_, vr m_, vi i] [] (b) _
  exact nx b hb
theorem L_undo {n sc L i : Int} {S : Int → Int} {X : cw_M} {Q : Option cw_V → cw_M → Prop} (hn : n < 600) (hs0 : 0 < sc) (hs : sc < 33554432) (ht : cw_tg sc = 40) (hl : cw_ln sc = L) (hL : L ≤ 3072) (hi : 0 ≤ i ∧ i + 6 ≤ L) (hI : J_I n sc S X) (nx : ∀ b, J_I (n + 1) sc S b → cw_R 201 k_L_law 1236 [vr sc, vr x_, vr m_, vi i] [] b Q) : cw_R 201 k_L_law 666 [vr sc, vr x_, vr m_, vi i] [] X Q := by
  have hsX := J_s hI
  refine la_go_RV hI.1.1 8 [] [1236] ?_
  show cw_C _ _ [vr x_] (X) _
  refine J_C1 (J_undo hn hs) hI (fun (a : cw_M) (x : Int) (ha : la_ok a) has h2 => ⟨ha, ?_⟩)
  show cw_C _ _ [vr m_] (a) _
  refine J_C2 rfl h2 (fun (b : cw_M) hb => ⟨hb.1.1, ?_⟩)
  refine br_t (show x = x by rfl) ?_
  show cw_R _ _ 1236 [vr sc, vr x_, vr m_, vi i] [] (b) _
  exact nx b hb
theorem L_readings {n sc L i : Int} {S : Int → Int} {X : cw_M} {Q : Option cw_V → cw_M → Prop} (hn : n < 600) (hs0 : 0 < sc) (hs : sc < 33554432) (ht : cw_tg sc = 40) (hl : cw_ln sc = L) (hL : L ≤ 3072) (hi : 0 ≤ i ∧ i + 6 ≤ L) (hI : J_I n sc S X) (nx : ∀ b, J_I (n + 1) sc S b → cw_R 201 k_L_law 1236 [vr sc, vr x_, vr m_, vi i] [] b Q) : cw_R 201 k_L_law 679 [vr sc, vr x_, vr m_, vi i] [] X Q := by
  have hsX := J_s hI
  refine la_go_RV hI.1.1 8 [] [1236] ?_
  show cw_C _ _ [vr x_] (X) _
  refine J_C1 (J_readings hn hs) hI (fun (a : cw_M) (x : Int) (ha : la_ok a) has h2 => ⟨ha, ?_⟩)
  show cw_C _ _ [vr m_] (a) _
  refine J_C2 rfl h2 (fun (b : cw_M) hb => ⟨hb.1.1, ?_⟩)
  refine br_t (show x = x by rfl) ?_
  show cw_R _ _ 1236 [vr sc, vr x_, vr m_, vi i] [] (b) _
  exact nx b hb
theorem L_depth {n sc L i : Int} {S : Int → Int} {X : cw_M} {Q : Option cw_V → cw_M → Prop} (hn : n < 600) (hs0 : 0 < sc) (hs : sc < 33554432) (ht : cw_tg sc = 40) (hl : cw_ln sc = L) (hL : L ≤ 3072) (hi : 0 ≤ i ∧ i + 6 ≤ L) (hI : J_I n sc S X) (nx : ∀ b, J_I (n + 1) sc S b → cw_R 201 k_L_law 1236 [vr sc, vr x_, vr m_, vi i] [] b Q) : cw_R 201 k_L_law 692 [vr sc, vr x_, vr m_, vi i] [] X Q := by
  have hsX := J_s hI
  refine la_go_RV hI.1.1 28 [697, 702, 711, 716] [1236] ?_
  refine And.intro (show -2147483648 ≤ i + 1 ∧ i + 1 < 2147483648 by omega) ?_
  refine And.intro (show cw_tg sc = 40 ∧ 0 ≤ i + 1 ∧ i + 1 < cw_ln sc by exact ⟨ht, by omega, by omega⟩) ?_
  refine And.intro (show -2147483648 ≤ i + 2 ∧ i + 2 < 2147483648 by omega) ?_
  refine And.intro (show cw_tg sc = 40 ∧ 0 ≤ i + 2 ∧ i + 2 < cw_ln sc by exact ⟨ht, by omega, by omega⟩) ?_
  show cw_C _ _ [vr x_, vi (X sc (i + 1)), vi (X sc (i + 2))] (X) _
  refine J_C1 (J_depth hn hs) hI (fun (a : cw_M) (x : Int) (ha : la_ok a) has h2 => ⟨ha, ?_⟩)
  refine And.intro (show -2147483648 ≤ i + 1 ∧ i + 1 < 2147483648 by omega) ?_
  refine And.intro (show cw_tg sc = 40 ∧ 0 ≤ i + 1 ∧ i + 1 < cw_ln sc by exact ⟨ht, by omega, by omega⟩) ?_
  refine And.intro (show -2147483648 ≤ i + 2 ∧ i + 2 < 2147483648 by omega) ?_
  refine And.intro (show cw_tg sc = 40 ∧ 0 ≤ i + 2 ∧ i + 2 < cw_ln sc by exact ⟨ht, by omega, by omega⟩) ?_
  show cw_C _ _ [vr m_, vi (a sc (i + 1)), vi (a sc (i + 2))] (a) _
  refine J_C2 (by rw [has, hsX]) h2 (fun (b : cw_M) hb => ⟨hb.1.1, ?_⟩)
  refine br_t (show x = x by rfl) ?_
  show cw_R _ _ 1236 [vr sc, vr x_, vr m_, vi i] [] (b) _
  exact nx b hb
theorem L_gets {n sc L i : Int} {S : Int → Int} {X : cw_M} {Q : Option cw_V → cw_M → Prop} (hn : n < 600) (hs0 : 0 < sc) (hs : sc < 33554432) (ht : cw_tg sc = 40) (hl : cw_ln sc = L) (hL : L ≤ 3072) (hi : 0 ≤ i ∧ i + 6 ≤ L) (hI : J_I n sc S X) (nx : ∀ b, J_I (n + 1) sc S b → cw_R 201 k_L_law 1236 [vr sc, vr x_, vr m_, vi i] [] b Q) : cw_R 201 k_L_law 725 [vr sc, vr x_, vr m_, vi i] [] X Q := by
  have hsX := J_s hI
  refine la_go_RV hI.1.1 28 [730, 735, 744, 749] [1236] ?_
  refine And.intro (show -2147483648 ≤ i + 1 ∧ i + 1 < 2147483648 by omega) ?_
  refine And.intro (show cw_tg sc = 40 ∧ 0 ≤ i + 1 ∧ i + 1 < cw_ln sc by exact ⟨ht, by omega, by omega⟩) ?_
  refine And.intro (show -2147483648 ≤ i + 2 ∧ i + 2 < 2147483648 by omega) ?_
  refine And.intro (show cw_tg sc = 40 ∧ 0 ≤ i + 2 ∧ i + 2 < cw_ln sc by exact ⟨ht, by omega, by omega⟩) ?_
  show cw_C _ _ [vr x_, vi (X sc (i + 1)), vi (X sc (i + 2))] (X) _
  refine J_C1 (J_gets hn hs) hI (fun (a : cw_M) (x : Int) (ha : la_ok a) has h2 => ⟨ha, ?_⟩)
  refine And.intro (show -2147483648 ≤ i + 1 ∧ i + 1 < 2147483648 by omega) ?_
  refine And.intro (show cw_tg sc = 40 ∧ 0 ≤ i + 1 ∧ i + 1 < cw_ln sc by exact ⟨ht, by omega, by omega⟩) ?_
  refine And.intro (show -2147483648 ≤ i + 2 ∧ i + 2 < 2147483648 by omega) ?_
  refine And.intro (show cw_tg sc = 40 ∧ 0 ≤ i + 2 ∧ i + 2 < cw_ln sc by exact ⟨ht, by omega, by omega⟩) ?_
  show cw_C _ _ [vr m_, vi (a sc (i + 1)), vi (a sc (i + 2))] (a) _
  refine J_C2 (by rw [has, hsX]) h2 (fun (b : cw_M) hb => ⟨hb.1.1, ?_⟩)
  refine br_t (show x = x by rfl) ?_
  show cw_R _ _ 1236 [vr sc, vr x_, vr m_, vi i] [] (b) _
  exact nx b hb
theorem L_lost {n sc L i : Int} {S : Int → Int} {X : cw_M} {Q : Option cw_V → cw_M → Prop} (hn : n < 600) (hs0 : 0 < sc) (hs : sc < 33554432) (ht : cw_tg sc = 40) (hl : cw_ln sc = L) (hL : L ≤ 3072) (hi : 0 ≤ i ∧ i + 6 ≤ L) (hI : J_I n sc S X) (nx : ∀ b, J_I (n + 1) sc S b → cw_R 201 k_L_law 1236 [vr sc, vr x_, vr m_, vi i] [] b Q) : cw_R 201 k_L_law 758 [vr sc, vr x_, vr m_, vi i] [] X Q := by
  have hsX := J_s hI
  refine la_go_RV hI.1.1 18 [763, 772] [1236] ?_
  refine And.intro (show -2147483648 ≤ i + 1 ∧ i + 1 < 2147483648 by omega) ?_
  refine And.intro (show cw_tg sc = 40 ∧ 0 ≤ i + 1 ∧ i + 1 < cw_ln sc by exact ⟨ht, by omega, by omega⟩) ?_
  show cw_C _ _ [vr x_, vi (X sc (i + 1))] (X) _
  refine J_C1 (J_lost hn hs) hI (fun (a : cw_M) (x : Int) (ha : la_ok a) has h2 => ⟨ha, ?_⟩)
  refine And.intro (show -2147483648 ≤ i + 1 ∧ i + 1 < 2147483648 by omega) ?_
  refine And.intro (show cw_tg sc = 40 ∧ 0 ≤ i + 1 ∧ i + 1 < cw_ln sc by exact ⟨ht, by omega, by omega⟩) ?_
  show cw_C _ _ [vr m_, vi (a sc (i + 1))] (a) _
  refine J_C2 (by rw [has, hsX]) h2 (fun (b : cw_M) hb => ⟨hb.1.1, ?_⟩)
  refine br_t (show x = x by rfl) ?_
  show cw_R _ _ 1236 [vr sc, vr x_, vr m_, vi i] [] (b) _
  exact nx b hb
theorem L_range {n sc L i : Int} {S : Int → Int} {X : cw_M} {Q : Option cw_V → cw_M → Prop} (hn : n < 600) (hs0 : 0 < sc) (hs : sc < 33554432) (ht : cw_tg sc = 40) (hl : cw_ln sc = L) (hL : L ≤ 3072) (hi : 0 ≤ i ∧ i + 6 ≤ L) (hI : J_I n sc S X) (nx : ∀ b, J_I (n + 1) sc S b → cw_R 201 k_L_law 1236 [vr sc, vr x_, vr m_, vi i] [] b Q) : cw_R 201 k_L_law 781 [vr sc, vr x_, vr m_, vi i] [] X Q := by
  have hsX := J_s hI
  refine la_go_RV hI.1.1 28 [786, 791, 800, 805] [1236] ?_
  refine And.intro (show -2147483648 ≤ i + 1 ∧ i + 1 < 2147483648 by omega) ?_
  refine And.intro (show cw_tg sc = 40 ∧ 0 ≤ i + 1 ∧ i + 1 < cw_ln sc by exact ⟨ht, by omega, by omega⟩) ?_
  refine And.intro (show -2147483648 ≤ i + 2 ∧ i + 2 < 2147483648 by omega) ?_
  refine And.intro (show cw_tg sc = 40 ∧ 0 ≤ i + 2 ∧ i + 2 < cw_ln sc by exact ⟨ht, by omega, by omega⟩) ?_
  show cw_C _ _ [vr x_, vi (X sc (i + 1)), vi (X sc (i + 2))] (X) _
  refine J_C1 (J_range hn hs) hI (fun (a : cw_M) (x : Int) (ha : la_ok a) has h2 => ⟨ha, ?_⟩)
  refine And.intro (show -2147483648 ≤ i + 1 ∧ i + 1 < 2147483648 by omega) ?_
  refine And.intro (show cw_tg sc = 40 ∧ 0 ≤ i + 1 ∧ i + 1 < cw_ln sc by exact ⟨ht, by omega, by omega⟩) ?_
  refine And.intro (show -2147483648 ≤ i + 2 ∧ i + 2 < 2147483648 by omega) ?_
  refine And.intro (show cw_tg sc = 40 ∧ 0 ≤ i + 2 ∧ i + 2 < cw_ln sc by exact ⟨ht, by omega, by omega⟩) ?_
  show cw_C _ _ [vr m_, vi (a sc (i + 1)), vi (a sc (i + 2))] (a) _
  refine J_C2 (by rw [has, hsX]) h2 (fun (b : cw_M) hb => ⟨hb.1.1, ?_⟩)
  refine br_t (show x = x by rfl) ?_
  show cw_R _ _ 1236 [vr sc, vr x_, vr m_, vi i] [] (b) _
  exact nx b hb
theorem L_unlike {n sc L i : Int} {S : Int → Int} {X : cw_M} {Q : Option cw_V → cw_M → Prop} (hn : n < 600) (hs0 : 0 < sc) (hs : sc < 33554432) (ht : cw_tg sc = 40) (hl : cw_ln sc = L) (hL : L ≤ 3072) (hi : 0 ≤ i ∧ i + 6 ≤ L) (hI : J_I n sc S X) (nx : ∀ b, J_I (n + 1) sc S b → cw_R 201 k_L_law 1236 [vr sc, vr x_, vr m_, vi i] [] b Q) : cw_R 201 k_L_law 814 [vr sc, vr x_, vr m_, vi i] [] X Q := by
  have hsX := J_s hI
  refine la_go_RV hI.1.1 8 [] [1236] ?_
  show cw_C _ _ [vr x_] (X) _
  refine J_C1 (J_unlike hn hs) hI (fun (a : cw_M) (x : Int) (ha : la_ok a) has h2 => ⟨ha, ?_⟩)
  show cw_C _ _ [vr m_] (a) _
  refine J_C2 rfl h2 (fun (b : cw_M) hb => ⟨hb.1.1, ?_⟩)
  refine br_t (show x = x by rfl) ?_
  show cw_R _ _ 1236 [vr sc, vr x_, vr m_, vi i] [] (b) _
  exact nx b hb
theorem L_settle {n sc L i : Int} {S : Int → Int} {X : cw_M} {Q : Option cw_V → cw_M → Prop} (hn : n < 600) (hs0 : 0 < sc) (hs : sc < 33554432) (ht : cw_tg sc = 40) (hl : cw_ln sc = L) (hL : L ≤ 3072) (hi : 0 ≤ i ∧ i + 6 ≤ L) (hI : J_I n sc S X) (nx : ∀ b, J_I (n + 1) sc S b → cw_R 201 k_L_law 1236 [vr sc, vr x_, vr m_, vi i] [] b Q) : cw_R 201 k_L_law 827 [vr sc, vr x_, vr m_, vi i] [] X Q := by
  have hsX := J_s hI
  refine la_go_RV hI.1.1 28 [832, 837, 846, 851] [1236] ?_
  refine And.intro (show -2147483648 ≤ i + 1 ∧ i + 1 < 2147483648 by omega) ?_
  refine And.intro (show cw_tg sc = 40 ∧ 0 ≤ i + 1 ∧ i + 1 < cw_ln sc by exact ⟨ht, by omega, by omega⟩) ?_
  refine And.intro (show -2147483648 ≤ i + 2 ∧ i + 2 < 2147483648 by omega) ?_
  refine And.intro (show cw_tg sc = 40 ∧ 0 ≤ i + 2 ∧ i + 2 < cw_ln sc by exact ⟨ht, by omega, by omega⟩) ?_
  show cw_C _ _ [vr x_, vi (X sc (i + 1)), vi (X sc (i + 2))] (X) _
  refine J_C1 (J_settle hn hs) hI (fun (a : cw_M) (x : Int) (ha : la_ok a) has h2 => ⟨ha, ?_⟩)
  refine And.intro (show -2147483648 ≤ i + 1 ∧ i + 1 < 2147483648 by omega) ?_
  refine And.intro (show cw_tg sc = 40 ∧ 0 ≤ i + 1 ∧ i + 1 < cw_ln sc by exact ⟨ht, by omega, by omega⟩) ?_
  refine And.intro (show -2147483648 ≤ i + 2 ∧ i + 2 < 2147483648 by omega) ?_
  refine And.intro (show cw_tg sc = 40 ∧ 0 ≤ i + 2 ∧ i + 2 < cw_ln sc by exact ⟨ht, by omega, by omega⟩) ?_
  show cw_C _ _ [vr m_, vi (a sc (i + 1)), vi (a sc (i + 2))] (a) _
  refine J_C2 (by rw [has, hsX]) h2 (fun (b : cw_M) hb => ⟨hb.1.1, ?_⟩)
  refine br_t (show x = x by rfl) ?_
  show cw_R _ _ 1236 [vr sc, vr x_, vr m_, vi i] [] (b) _
  exact nx b hb
theorem L_fair {n sc L i : Int} {S : Int → Int} {X : cw_M} {Q : Option cw_V → cw_M → Prop} (hn : n < 600) (hs0 : 0 < sc) (hs : sc < 33554432) (ht : cw_tg sc = 40) (hl : cw_ln sc = L) (hL : L ≤ 3072) (hi : 0 ≤ i ∧ i + 6 ≤ L) (hI : J_I n sc S X) (nx : ∀ b, J_I (n + 1) sc S b → cw_R 201 k_L_law 1236 [vr sc, vr x_, vr m_, vi i] [] b Q) : cw_R 201 k_L_law 860 [vr sc, vr x_, vr m_, vi i] [] X Q := by
  have hsX := J_s hI
  refine la_go_RV hI.1.1 18 [865, 874] [1236] ?_
  refine And.intro (show -2147483648 ≤ i + 1 ∧ i + 1 < 2147483648 by omega) ?_
  refine And.intro (show cw_tg sc = 40 ∧ 0 ≤ i + 1 ∧ i + 1 < cw_ln sc by exact ⟨ht, by omega, by omega⟩) ?_
  show cw_C _ _ [vr x_, vi (X sc (i + 1))] (X) _
  refine J_C1 (J_fair hn hs) hI (fun (a : cw_M) (x : Int) (ha : la_ok a) has h2 => ⟨ha, ?_⟩)
  refine And.intro (show -2147483648 ≤ i + 1 ∧ i + 1 < 2147483648 by omega) ?_
  refine And.intro (show cw_tg sc = 40 ∧ 0 ≤ i + 1 ∧ i + 1 < cw_ln sc by exact ⟨ht, by omega, by omega⟩) ?_
  show cw_C _ _ [vr m_, vi (a sc (i + 1))] (a) _
  refine J_C2 (by rw [has, hsX]) h2 (fun (b : cw_M) hb => ⟨hb.1.1, ?_⟩)
  refine br_t (show x = x by rfl) ?_
  show cw_R _ _ 1236 [vr sc, vr x_, vr m_, vi i] [] (b) _
  exact nx b hb
theorem L_told {n sc L i : Int} {S : Int → Int} {X : cw_M} {Q : Option cw_V → cw_M → Prop} (hn : n < 600) (hs0 : 0 < sc) (hs : sc < 33554432) (ht : cw_tg sc = 40) (hl : cw_ln sc = L) (hL : L ≤ 3072) (hi : 0 ≤ i ∧ i + 6 ≤ L) (hI : J_I n sc S X) (nx : ∀ b, J_I (n + 1) sc S b → cw_R 201 k_L_law 1236 [vr sc, vr x_, vr m_, vi i] [] b Q) : cw_R 201 k_L_law 883 [vr sc, vr x_, vr m_, vi i] [] X Q := by
  have hsX := J_s hI
  refine la_go_RV hI.1.1 28 [888, 893, 902, 907] [1236] ?_
  refine And.intro (show -2147483648 ≤ i + 1 ∧ i + 1 < 2147483648 by omega) ?_
  refine And.intro (show cw_tg sc = 40 ∧ 0 ≤ i + 1 ∧ i + 1 < cw_ln sc by exact ⟨ht, by omega, by omega⟩) ?_
  refine And.intro (show -2147483648 ≤ i + 2 ∧ i + 2 < 2147483648 by omega) ?_
  refine And.intro (show cw_tg sc = 40 ∧ 0 ≤ i + 2 ∧ i + 2 < cw_ln sc by exact ⟨ht, by omega, by omega⟩) ?_
  show cw_C _ _ [vr x_, vi (X sc (i + 1)), vi (X sc (i + 2))] (X) _
  refine J_C1 (J_told hn hs) hI (fun (a : cw_M) (x : Int) (ha : la_ok a) has h2 => ⟨ha, ?_⟩)
  refine And.intro (show -2147483648 ≤ i + 1 ∧ i + 1 < 2147483648 by omega) ?_
  refine And.intro (show cw_tg sc = 40 ∧ 0 ≤ i + 1 ∧ i + 1 < cw_ln sc by exact ⟨ht, by omega, by omega⟩) ?_
  refine And.intro (show -2147483648 ≤ i + 2 ∧ i + 2 < 2147483648 by omega) ?_
  refine And.intro (show cw_tg sc = 40 ∧ 0 ≤ i + 2 ∧ i + 2 < cw_ln sc by exact ⟨ht, by omega, by omega⟩) ?_
  show cw_C _ _ [vr m_, vi (a sc (i + 1)), vi (a sc (i + 2))] (a) _
  refine J_C2 (by rw [has, hsX]) h2 (fun (b : cw_M) hb => ⟨hb.1.1, ?_⟩)
  refine br_t (show x = x by rfl) ?_
  show cw_R _ _ 1236 [vr sc, vr x_, vr m_, vi i] [] (b) _
  exact nx b hb
theorem L_fits {n sc L i : Int} {S : Int → Int} {X : cw_M} {Q : Option cw_V → cw_M → Prop} (hn : n < 600) (hs0 : 0 < sc) (hs : sc < 33554432) (ht : cw_tg sc = 40) (hl : cw_ln sc = L) (hL : L ≤ 3072) (hi : 0 ≤ i ∧ i + 6 ≤ L) (hI : J_I n sc S X) (nx : ∀ b, J_I (n + 1) sc S b → cw_R 201 k_L_law 1236 [vr sc, vr x_, vr m_, vi i] [] b Q) : cw_R 201 k_L_law 916 [vr sc, vr x_, vr m_, vi i] [] X Q := by
  have hsX := J_s hI
  refine la_go_RV hI.1.1 18 [921, 930] [1236] ?_
  refine And.intro (show -2147483648 ≤ i + 1 ∧ i + 1 < 2147483648 by omega) ?_
  refine And.intro (show cw_tg sc = 40 ∧ 0 ≤ i + 1 ∧ i + 1 < cw_ln sc by exact ⟨ht, by omega, by omega⟩) ?_
  show cw_C _ _ [vr x_, vi (X sc (i + 1))] (X) _
  refine J_C1 (J_fits hn hs) hI (fun (a : cw_M) (x : Int) (ha : la_ok a) has h2 => ⟨ha, ?_⟩)
  refine And.intro (show -2147483648 ≤ i + 1 ∧ i + 1 < 2147483648 by omega) ?_
  refine And.intro (show cw_tg sc = 40 ∧ 0 ≤ i + 1 ∧ i + 1 < cw_ln sc by exact ⟨ht, by omega, by omega⟩) ?_
  show cw_C _ _ [vr m_, vi (a sc (i + 1))] (a) _
  refine J_C2 (by rw [has, hsX]) h2 (fun (b : cw_M) hb => ⟨hb.1.1, ?_⟩)
  refine br_t (show x = x by rfl) ?_
  show cw_R _ _ 1236 [vr sc, vr x_, vr m_, vi i] [] (b) _
  exact nx b hb
theorem L_ask {n sc L i : Int} {S : Int → Int} {X : cw_M} {Q : Option cw_V → cw_M → Prop} (hn : n < 600) (hs0 : 0 < sc) (hs : sc < 33554432) (ht : cw_tg sc = 40) (hl : cw_ln sc = L) (hL : L ≤ 3072) (hi : 0 ≤ i ∧ i + 6 ≤ L) (hI : J_I n sc S X) (nx : ∀ b, J_I (n + 1) sc S b → cw_R 201 k_L_law 1236 [vr sc, vr x_, vr m_, vi i] [] b Q) : cw_R 201 k_L_law 939 [vr sc, vr x_, vr m_, vi i] [] X Q := by
  have hsX := J_s hI
  refine la_go_RV hI.1.1 18 [944, 953] [1236] ?_
  refine And.intro (show -2147483648 ≤ i + 1 ∧ i + 1 < 2147483648 by omega) ?_
  refine And.intro (show cw_tg sc = 40 ∧ 0 ≤ i + 1 ∧ i + 1 < cw_ln sc by exact ⟨ht, by omega, by omega⟩) ?_
  show cw_C _ _ [vr x_, vi (X sc (i + 1))] (X) _
  refine J_C1 (J_ask hn hs) hI (fun (a : cw_M) (x : Int) (ha : la_ok a) has h2 => ⟨ha, ?_⟩)
  refine And.intro (show -2147483648 ≤ i + 1 ∧ i + 1 < 2147483648 by omega) ?_
  refine And.intro (show cw_tg sc = 40 ∧ 0 ≤ i + 1 ∧ i + 1 < cw_ln sc by exact ⟨ht, by omega, by omega⟩) ?_
  show cw_C _ _ [vr m_, vi (a sc (i + 1))] (a) _
  refine J_C2 (by rw [has, hsX]) h2 (fun (b : cw_M) hb => ⟨hb.1.1, ?_⟩)
  refine br_t (show x = x by rfl) ?_
  show cw_R _ _ 1236 [vr sc, vr x_, vr m_, vi i] [] (b) _
  exact nx b hb
theorem L_judge {n sc L i : Int} {S : Int → Int} {X : cw_M} {Q : Option cw_V → cw_M → Prop} (hn : n < 600) (hs0 : 0 < sc) (hs : sc < 33554432) (ht : cw_tg sc = 40) (hl : cw_ln sc = L) (hL : L ≤ 3072) (hi : 0 ≤ i ∧ i + 6 ≤ L) (hI : J_I n sc S X) (nx : ∀ b, J_I (n + 1) sc S b → cw_R 201 k_L_law 1236 [vr sc, vr x_, vr m_, vi i] [] b Q) : cw_R 201 k_L_law 962 [vr sc, vr x_, vr m_, vi i] [] X Q := by
  have hsX := J_s hI
  refine la_go_RV hI.1.1 18 [967, 976] [1236] ?_
  refine And.intro (show -2147483648 ≤ i + 1 ∧ i + 1 < 2147483648 by omega) ?_
  refine And.intro (show cw_tg sc = 40 ∧ 0 ≤ i + 1 ∧ i + 1 < cw_ln sc by exact ⟨ht, by omega, by omega⟩) ?_
  show cw_C _ _ [vr x_, vi (X sc (i + 1))] (X) _
  refine J_C1 (J_judge hn hs) hI (fun (a : cw_M) (x : Int) (ha : la_ok a) has h2 => ⟨ha, ?_⟩)
  refine And.intro (show -2147483648 ≤ i + 1 ∧ i + 1 < 2147483648 by omega) ?_
  refine And.intro (show cw_tg sc = 40 ∧ 0 ≤ i + 1 ∧ i + 1 < cw_ln sc by exact ⟨ht, by omega, by omega⟩) ?_
  show cw_C _ _ [vr m_, vi (a sc (i + 1))] (a) _
  refine J_C2 (by rw [has, hsX]) h2 (fun (b : cw_M) hb => ⟨hb.1.1, ?_⟩)
  refine br_t (show x = x by rfl) ?_
  show cw_R _ _ 1236 [vr sc, vr x_, vr m_, vi i] [] (b) _
  exact nx b hb
theorem L_ruled {n sc L i : Int} {S : Int → Int} {X : cw_M} {Q : Option cw_V → cw_M → Prop} (hn : n < 600) (hs0 : 0 < sc) (hs : sc < 33554432) (ht : cw_tg sc = 40) (hl : cw_ln sc = L) (hL : L ≤ 3072) (hi : 0 ≤ i ∧ i + 6 ≤ L) (hI : J_I n sc S X) (nx : ∀ b, J_I (n + 1) sc S b → cw_R 201 k_L_law 1236 [vr sc, vr x_, vr m_, vi i] [] b Q) : cw_R 201 k_L_law 985 [vr sc, vr x_, vr m_, vi i] [] X Q := by
  have hsX := J_s hI
  refine la_go_RV hI.1.1 18 [990, 999] [1236] ?_
  refine And.intro (show -2147483648 ≤ i + 1 ∧ i + 1 < 2147483648 by omega) ?_
  refine And.intro (show cw_tg sc = 40 ∧ 0 ≤ i + 1 ∧ i + 1 < cw_ln sc by exact ⟨ht, by omega, by omega⟩) ?_
  show cw_C _ _ [vr x_, vi (X sc (i + 1))] (X) _
  refine J_C1 (J_ruled hn hs) hI (fun (a : cw_M) (x : Int) (ha : la_ok a) has h2 => ⟨ha, ?_⟩)
  refine And.intro (show -2147483648 ≤ i + 1 ∧ i + 1 < 2147483648 by omega) ?_
  refine And.intro (show cw_tg sc = 40 ∧ 0 ≤ i + 1 ∧ i + 1 < cw_ln sc by exact ⟨ht, by omega, by omega⟩) ?_
  show cw_C _ _ [vr m_, vi (a sc (i + 1))] (a) _
  refine J_C2 (by rw [has, hsX]) h2 (fun (b : cw_M) hb => ⟨hb.1.1, ?_⟩)
  refine br_t (show x = x by rfl) ?_
  show cw_R _ _ 1236 [vr sc, vr x_, vr m_, vi i] [] (b) _
  exact nx b hb
theorem L_forget {n sc L i : Int} {S : Int → Int} {X : cw_M} {Q : Option cw_V → cw_M → Prop} (hn : n < 600) (hs0 : 0 < sc) (hs : sc < 33554432) (ht : cw_tg sc = 40) (hl : cw_ln sc = L) (hL : L ≤ 3072) (hi : 0 ≤ i ∧ i + 6 ≤ L) (hI : J_I n sc S X) (nx : ∀ b, J_I (n + 1) sc S b → cw_R 201 k_L_law 1236 [vr sc, vr x_, vr m_, vi i] [] b Q) : cw_R 201 k_L_law 1008 [vr sc, vr x_, vr m_, vi i] [] X Q := by
  have hsX := J_s hI
  refine la_go_RV hI.1.1 8 [] [1236] ?_
  show cw_C _ _ [vr x_] (X) _
  refine J_C1 (J_forget hn hs) hI (fun (a : cw_M) (x : Int) (ha : la_ok a) has h2 => ⟨ha, ?_⟩)
  show cw_C _ _ [vr m_] (a) _
  refine J_C2 rfl h2 (fun (b : cw_M) hb => ⟨hb.1.1, ?_⟩)
  refine br_t (show x = x by rfl) ?_
  show cw_R _ _ 1236 [vr sc, vr x_, vr m_, vi i] [] (b) _
  exact nx b hb
theorem L_few {n sc L i : Int} {S : Int → Int} {X : cw_M} {Q : Option cw_V → cw_M → Prop} (hn : n < 600) (hs0 : 0 < sc) (hs : sc < 33554432) (ht : cw_tg sc = 40) (hl : cw_ln sc = L) (hL : L ≤ 3072) (hi : 0 ≤ i ∧ i + 6 ≤ L) (hI : J_I n sc S X) (nx : ∀ b, J_I (n + 1) sc S b → cw_R 201 k_L_law 1236 [vr sc, vr x_, vr m_, vi i] [] b Q) : cw_R 201 k_L_law 1021 [vr sc, vr x_, vr m_, vi i] [] X Q := by
  have hsX := J_s hI
  refine la_go_RV hI.1.1 29 [1026, 1031, 1040, 1045] [1236] ?_
  refine And.intro (show -2147483648 ≤ i + 1 ∧ i + 1 < 2147483648 by omega) ?_
  refine And.intro (show cw_tg sc = 40 ∧ 0 ≤ i + 1 ∧ i + 1 < cw_ln sc by exact ⟨ht, by omega, by omega⟩) ?_
  refine And.intro (show -2147483648 ≤ i + 2 ∧ i + 2 < 2147483648 by omega) ?_
  refine And.intro (show cw_tg sc = 40 ∧ 0 ≤ i + 2 ∧ i + 2 < cw_ln sc by exact ⟨ht, by omega, by omega⟩) ?_
  show cw_C _ _ [vr x_, vi (X sc (i + 1)), vi (X sc (i + 2))] (X) _
  refine J_C1 (J_few hn hs) hI (fun (a : cw_M) (x : Int) (ha : la_ok a) has h2 => ⟨ha, ?_⟩)
  refine And.intro (show -2147483648 ≤ i + 1 ∧ i + 1 < 2147483648 by omega) ?_
  refine And.intro (show cw_tg sc = 40 ∧ 0 ≤ i + 1 ∧ i + 1 < cw_ln sc by exact ⟨ht, by omega, by omega⟩) ?_
  refine And.intro (show -2147483648 ≤ i + 2 ∧ i + 2 < 2147483648 by omega) ?_
  refine And.intro (show cw_tg sc = 40 ∧ 0 ≤ i + 2 ∧ i + 2 < cw_ln sc by exact ⟨ht, by omega, by omega⟩) ?_
  show cw_C _ _ [vr m_, vi (a sc (i + 1)), vi (a sc (i + 2))] (a) _
  refine J_C2 (by rw [has, hsX]) h2 (fun (b : cw_M) hb => ⟨hb.1.1, ?_⟩)
  refine br_t (show cw_lc x x = 0 by exact lc_eq.mpr rfl) ?_
  show cw_R _ _ 1236 [vr sc, vr x_, vr m_, vi i] [] (b) _
  exact nx b hb
theorem L_compare {n sc L i : Int} {S : Int → Int} {X : cw_M} {Q : Option cw_V → cw_M → Prop} (hn : n < 600) (hs0 : 0 < sc) (hs : sc < 33554432) (ht : cw_tg sc = 40) (hl : cw_ln sc = L) (hL : L ≤ 3072) (hi : 0 ≤ i ∧ i + 6 ≤ L) (hI : J_I n sc S X) (nx : ∀ b, J_I (n + 1) sc S b → cw_R 201 k_L_law 1236 [vr sc, vr x_, vr m_, vi i] [] b Q) : cw_R 201 k_L_law 1055 [vr sc, vr x_, vr m_, vi i] [] X Q := by
  have hsX := J_s hI
  refine la_go_RV hI.1.1 38 [1060, 1065, 1070, 1079, 1084, 1089] [1236] ?_
  refine And.intro (show -2147483648 ≤ i + 1 ∧ i + 1 < 2147483648 by omega) ?_
  refine And.intro (show cw_tg sc = 40 ∧ 0 ≤ i + 1 ∧ i + 1 < cw_ln sc by exact ⟨ht, by omega, by omega⟩) ?_
  refine And.intro (show -2147483648 ≤ i + 2 ∧ i + 2 < 2147483648 by omega) ?_
  refine And.intro (show cw_tg sc = 40 ∧ 0 ≤ i + 2 ∧ i + 2 < cw_ln sc by exact ⟨ht, by omega, by omega⟩) ?_
  refine And.intro (show -2147483648 ≤ i + 3 ∧ i + 3 < 2147483648 by omega) ?_
  refine And.intro (show cw_tg sc = 40 ∧ 0 ≤ i + 3 ∧ i + 3 < cw_ln sc by exact ⟨ht, by omega, by omega⟩) ?_
  show cw_C _ _ [vr x_, vi (X sc (i + 1)), vi (X sc (i + 2)), vi (X sc (i + 3))] (X) _
  refine J_C1 (J_compare hn hs) hI (fun (a : cw_M) (x : Int) (ha : la_ok a) has h2 => ⟨ha, ?_⟩)
  refine And.intro (show -2147483648 ≤ i + 1 ∧ i + 1 < 2147483648 by omega) ?_
  refine And.intro (show cw_tg sc = 40 ∧ 0 ≤ i + 1 ∧ i + 1 < cw_ln sc by exact ⟨ht, by omega, by omega⟩) ?_
  refine And.intro (show -2147483648 ≤ i + 2 ∧ i + 2 < 2147483648 by omega) ?_
  refine And.intro (show cw_tg sc = 40 ∧ 0 ≤ i + 2 ∧ i + 2 < cw_ln sc by exact ⟨ht, by omega, by omega⟩) ?_
  refine And.intro (show -2147483648 ≤ i + 3 ∧ i + 3 < 2147483648 by omega) ?_
  refine And.intro (show cw_tg sc = 40 ∧ 0 ≤ i + 3 ∧ i + 3 < cw_ln sc by exact ⟨ht, by omega, by omega⟩) ?_
  show cw_C _ _ [vr m_, vi (a sc (i + 1)), vi (a sc (i + 2)), vi (a sc (i + 3))] (a) _
  refine J_C2 (by rw [has, hsX]) h2 (fun (b : cw_M) hb => ⟨hb.1.1, ?_⟩)
  refine br_t (show x = x by rfl) ?_
  show cw_R _ _ 1236 [vr sc, vr x_, vr m_, vi i] [] (b) _
  exact nx b hb
theorem L_years {n sc L i : Int} {S : Int → Int} {X : cw_M} {Q : Option cw_V → cw_M → Prop} (hn : n < 600) (hs0 : 0 < sc) (hs : sc < 33554432) (ht : cw_tg sc = 40) (hl : cw_ln sc = L) (hL : L ≤ 3072) (hi : 0 ≤ i ∧ i + 6 ≤ L) (hI : J_I n sc S X) (nx : ∀ b, J_I (n + 1) sc S b → cw_R 201 k_L_law 1236 [vr sc, vr x_, vr m_, vi i] [] b Q) : cw_R 201 k_L_law 1098 [vr sc, vr x_, vr m_, vi i] [] X Q := by
  have hsX := J_s hI
  refine la_go_RV hI.1.1 28 [1103, 1108, 1117, 1122] [1236] ?_
  refine And.intro (show -2147483648 ≤ i + 1 ∧ i + 1 < 2147483648 by omega) ?_
  refine And.intro (show cw_tg sc = 40 ∧ 0 ≤ i + 1 ∧ i + 1 < cw_ln sc by exact ⟨ht, by omega, by omega⟩) ?_
  refine And.intro (show -2147483648 ≤ i + 2 ∧ i + 2 < 2147483648 by omega) ?_
  refine And.intro (show cw_tg sc = 40 ∧ 0 ≤ i + 2 ∧ i + 2 < cw_ln sc by exact ⟨ht, by omega, by omega⟩) ?_
  show cw_C _ _ [vr x_, vi (X sc (i + 1)), vi (X sc (i + 2))] (X) _
  refine J_C1 (J_years hn hs) hI (fun (a : cw_M) (x : Int) (ha : la_ok a) has h2 => ⟨ha, ?_⟩)
  refine And.intro (show -2147483648 ≤ i + 1 ∧ i + 1 < 2147483648 by omega) ?_
  refine And.intro (show cw_tg sc = 40 ∧ 0 ≤ i + 1 ∧ i + 1 < cw_ln sc by exact ⟨ht, by omega, by omega⟩) ?_
  refine And.intro (show -2147483648 ≤ i + 2 ∧ i + 2 < 2147483648 by omega) ?_
  refine And.intro (show cw_tg sc = 40 ∧ 0 ≤ i + 2 ∧ i + 2 < cw_ln sc by exact ⟨ht, by omega, by omega⟩) ?_
  show cw_C _ _ [vr m_, vi (a sc (i + 1)), vi (a sc (i + 2))] (a) _
  refine J_C2 (by rw [has, hsX]) h2 (fun (b : cw_M) hb => ⟨hb.1.1, ?_⟩)
  refine br_t (show x = x by rfl) ?_
  show cw_R _ _ 1236 [vr sc, vr x_, vr m_, vi i] [] (b) _
  exact nx b hb
theorem L_drawn {n sc L i : Int} {S : Int → Int} {X : cw_M} {Q : Option cw_V → cw_M → Prop} (hn : n < 600) (hs0 : 0 < sc) (hs : sc < 33554432) (ht : cw_tg sc = 40) (hl : cw_ln sc = L) (hL : L ≤ 3072) (hi : 0 ≤ i ∧ i + 6 ≤ L) (hI : J_I n sc S X) (nx : ∀ b, J_I (n + 1) sc S b → cw_R 201 k_L_law 1236 [vr sc, vr x_, vr m_, vi i] [] b Q) : cw_R 201 k_L_law 1131 [vr sc, vr x_, vr m_, vi i] [] X Q := by
  have hsX := J_s hI
  refine la_go_RV hI.1.1 18 [1136, 1145] [1236] ?_
  refine And.intro (show -2147483648 ≤ i + 1 ∧ i + 1 < 2147483648 by omega) ?_
  refine And.intro (show cw_tg sc = 40 ∧ 0 ≤ i + 1 ∧ i + 1 < cw_ln sc by exact ⟨ht, by omega, by omega⟩) ?_
  show cw_C _ _ [vr x_, vi (X sc (i + 1))] (X) _
  refine J_C1 (J_drawn hn hs) hI (fun (a : cw_M) (x : Int) (ha : la_ok a) has h2 => ⟨ha, ?_⟩)
  refine And.intro (show -2147483648 ≤ i + 1 ∧ i + 1 < 2147483648 by omega) ?_
  refine And.intro (show cw_tg sc = 40 ∧ 0 ≤ i + 1 ∧ i + 1 < cw_ln sc by exact ⟨ht, by omega, by omega⟩) ?_
  show cw_C _ _ [vr m_, vi (a sc (i + 1))] (a) _
  refine J_C2 (by rw [has, hsX]) h2 (fun (b : cw_M) hb => ⟨hb.1.1, ?_⟩)
  refine br_t (show x = x by rfl) ?_
  show cw_R _ _ 1236 [vr sc, vr x_, vr m_, vi i] [] (b) _
  exact nx b hb
theorem L_image {n sc L i : Int} {S : Int → Int} {X : cw_M} {Q : Option cw_V → cw_M → Prop} (hn : n < 600) (hs0 : 0 < sc) (hs : sc < 33554432) (ht : cw_tg sc = 40) (hl : cw_ln sc = L) (hL : L ≤ 3072) (hi : 0 ≤ i ∧ i + 6 ≤ L) (hI : J_I n sc S X) (nx : ∀ b, J_I (n + 1) sc S b → cw_R 201 k_L_law 1236 [vr sc, vr x_, vr m_, vi i] [] b Q) : cw_R 201 k_L_law 1154 [vr sc, vr x_, vr m_, vi i] [] X Q := by
  have hsX := J_s hI
  refine la_go_RV hI.1.1 18 [1159, 1168] [1236] ?_
  refine And.intro (show -2147483648 ≤ i + 1 ∧ i + 1 < 2147483648 by omega) ?_
  refine And.intro (show cw_tg sc = 40 ∧ 0 ≤ i + 1 ∧ i + 1 < cw_ln sc by exact ⟨ht, by omega, by omega⟩) ?_
  show cw_C _ _ [vr x_, vi (X sc (i + 1))] (X) _
  refine J_C1 (J_image hn hs hs0) hI (fun (a : cw_M) (x : Int) (ha : la_ok a) has h2 => ⟨ha, ?_⟩)
  refine And.intro (show -2147483648 ≤ i + 1 ∧ i + 1 < 2147483648 by omega) ?_
  refine And.intro (show cw_tg sc = 40 ∧ 0 ≤ i + 1 ∧ i + 1 < cw_ln sc by exact ⟨ht, by omega, by omega⟩) ?_
  show cw_C _ _ [vr m_, vi (a sc (i + 1))] (a) _
  refine J_C2 (by rw [has, hsX]) h2 (fun (b : cw_M) hb => ⟨hb.1.1, ?_⟩)
  refine br_t (show x = x by rfl) ?_
  show cw_R _ _ 1236 [vr sc, vr x_, vr m_, vi i] [] (b) _
  exact nx b hb
theorem L_back {n sc L i : Int} {S : Int → Int} {X : cw_M} {Q : Option cw_V → cw_M → Prop} (hn : n < 600) (hs0 : 0 < sc) (hs : sc < 33554432) (ht : cw_tg sc = 40) (hl : cw_ln sc = L) (hL : L ≤ 3072) (hi : 0 ≤ i ∧ i + 6 ≤ L) (hI : J_I n sc S X) (nx : ∀ b, J_I (n + 1) sc S b → cw_R 201 k_L_law 1236 [vr sc, vr x_, vr m_, vi i] [] b Q) : cw_R 201 k_L_law 1177 [vr sc, vr x_, vr m_, vi i] [] X Q := by
  have hsX := J_s hI
  refine la_go_RV hI.1.1 18 [1182, 1191] [1236] ?_
  refine And.intro (show -2147483648 ≤ i + 1 ∧ i + 1 < 2147483648 by omega) ?_
  refine And.intro (show cw_tg sc = 40 ∧ 0 ≤ i + 1 ∧ i + 1 < cw_ln sc by exact ⟨ht, by omega, by omega⟩) ?_
  show cw_C _ _ [vr x_, vi (X sc (i + 1))] (X) _
  refine J_C1 (J_back hn hs) hI (fun (a : cw_M) (x : Int) (ha : la_ok a) has h2 => ⟨ha, ?_⟩)
  refine And.intro (show -2147483648 ≤ i + 1 ∧ i + 1 < 2147483648 by omega) ?_
  refine And.intro (show cw_tg sc = 40 ∧ 0 ≤ i + 1 ∧ i + 1 < cw_ln sc by exact ⟨ht, by omega, by omega⟩) ?_
  show cw_C _ _ [vr m_, vi (a sc (i + 1))] (a) _
  refine J_C2 (by rw [has, hsX]) h2 (fun (b : cw_M) hb => ⟨hb.1.1, ?_⟩)
  refine br_t (show x = x by rfl) ?_
  show cw_R _ _ 1236 [vr sc, vr x_, vr m_, vi i] [] (b) _
  exact nx b hb
theorem L_count {n sc L i : Int} {S : Int → Int} {X : cw_M} {Q : Option cw_V → cw_M → Prop} (hn : n < 600) (hs0 : 0 < sc) (hs : sc < 33554432) (ht : cw_tg sc = 40) (hl : cw_ln sc = L) (hL : L ≤ 3072) (hi : 0 ≤ i ∧ i + 6 ≤ L) (hI : J_I n sc S X) (nx : ∀ b, J_I (n + 1) sc S b → cw_R 201 k_L_law 1236 [vr sc, vr x_, vr m_, vi i] [] b Q) : cw_R 201 k_L_law 1200 [vr sc, vr x_, vr m_, vi i] [] X Q := by
  have hsX := J_s hI
  refine la_go_RV hI.1.1 18 [1205, 1214] [1236] ?_
  refine And.intro (show -2147483648 ≤ i + 1 ∧ i + 1 < 2147483648 by omega) ?_
  refine And.intro (show cw_tg sc = 40 ∧ 0 ≤ i + 1 ∧ i + 1 < cw_ln sc by exact ⟨ht, by omega, by omega⟩) ?_
  show cw_C _ _ [vr x_, vi (X sc (i + 1))] (X) _
  refine J_C1 (J_count hn hs) hI (fun (a : cw_M) (x : Int) (ha : la_ok a) has h2 => ⟨ha, ?_⟩)
  refine And.intro (show -2147483648 ≤ i + 1 ∧ i + 1 < 2147483648 by omega) ?_
  refine And.intro (show cw_tg sc = 40 ∧ 0 ≤ i + 1 ∧ i + 1 < cw_ln sc by exact ⟨ht, by omega, by omega⟩) ?_
  show cw_C _ _ [vr m_, vi (a sc (i + 1))] (a) _
  refine J_C2 (by rw [has, hsX]) h2 (fun (b : cw_M) hb => ⟨hb.1.1, ?_⟩)
  refine br_t (show x = x by rfl) ?_
  show cw_R _ _ 1236 [vr sc, vr x_, vr m_, vi i] [] (b) _
  exact nx b hb
theorem L_status {n sc L i : Int} {S : Int → Int} {X : cw_M} {Q : Option cw_V → cw_M → Prop} (hn : n < 600) (hs0 : 0 < sc) (hs : sc < 33554432) (ht : cw_tg sc = 40) (hl : cw_ln sc = L) (hL : L ≤ 3072) (hi : 0 ≤ i ∧ i + 6 ≤ L) (hI : J_I n sc S X) (nx : ∀ b, J_I (n + 1) sc S b → cw_R 201 k_L_law 1236 [vr sc, vr x_, vr m_, vi i] [] b Q) : cw_R 201 k_L_law 1223 [vr sc, vr x_, vr m_, vi i] [] X Q := by
  have hsX := J_s hI
  refine la_go_RV hI.1.1 8 [] [1236] ?_
  show cw_C _ _ [vr x_] (X) _
  refine J_C1 (J_status hn hs) hI (fun (a : cw_M) (x : Int) (ha : la_ok a) has h2 => ⟨ha, ?_⟩)
  show cw_C _ _ [vr m_] (a) _
  refine J_C2 rfl h2 (fun (b : cw_M) hb => ⟨hb.1.1, ?_⟩)
  refine br_t (show x = x by rfl) ?_
  show cw_R _ _ 1236 [vr sc, vr x_, vr m_, vi i] [] (b) _
  exact nx b hb
