/-! The class's code: a small machine with a stack, and pieces of code that come to what they mean. -/
def e_cb (op x y : Int) : Int := if op = 6 then x + y else if op = 7 then x - y else if op = 8 then x * y else if op = 9 then (if y = 0 then -2000000000 else x.tdiv y) else if op = 10 then (if y = 0 then -2000000000 else x.tmod y) else if op = 11 then (if x < y then 1 else 0) else if op = 12 then (if y < x then 1 else 0) else (if x = y then 1 else 0)
def e_st (co : Int → Int) (n : Int) (W : Int → Int) : Nat → Int → Int → (Int → Int) → Option Int
  | 0, _, _, _ => none
  | f + 1, p, t, sk => if 0 ≤ p ∧ p < n then
      (if co p % 16 = 1 ∨ co p % 16 = 2 then (if 50 ≤ t ∨ (co p % 16 = 2 ∧ 17 ≤ co p / 16) then none else e_st co n W f (p + 1) (t + 1) (cw_up sk t (if co p % 16 = 1 then co p / 16 else W (co p / 16))))
      else if t < 1 ∨ (5 < co p % 16 ∧ t < 2) then none
      else if co p % 16 = 0 then some (sk (t - 1))
      else if co p % 16 = 3 then e_st co n W f (p + 1) t (cw_up sk (t - 1) (1 - sk (t - 1)))
      else if (co p % 16 = 4 ∧ sk (t - 1) = 0) ∨ (co p % 16 = 5 ∧ sk (t - 1) ≠ 0) then e_st co n W f (co p / 16) t sk
      else if co p % 16 = 4 ∨ co p % 16 = 5 then e_st co n W f (p + 1) (t - 1) sk
      else if 1000000000 < e_cb (co p % 16) (sk (t - 2)) (sk (t - 1)) ∨ e_cb (co p % 16) (sk (t - 2)) (sk (t - 1)) < -1000000000 then none
      else e_st co n W f (p + 1) (t - 1) (cw_up sk (t - 2) (e_cb (co p % 16) (sk (t - 2)) (sk (t - 1)))))
    else none
theorem e_stS {co : Int → Int} {n : Int} {W : Int → Int} {f : Nat} {p t : Int} {sk : Int → Int} : e_st co n W (f + 1) p t sk = (if 0 ≤ p ∧ p < n then
      (if co p % 16 = 1 ∨ co p % 16 = 2 then (if 50 ≤ t ∨ (co p % 16 = 2 ∧ 17 ≤ co p / 16) then none else e_st co n W f (p + 1) (t + 1) (cw_up sk t (if co p % 16 = 1 then co p / 16 else W (co p / 16))))
      else if t < 1 ∨ (5 < co p % 16 ∧ t < 2) then none
      else if co p % 16 = 0 then some (sk (t - 1))
      else if co p % 16 = 3 then e_st co n W f (p + 1) t (cw_up sk (t - 1) (1 - sk (t - 1)))
      else if (co p % 16 = 4 ∧ sk (t - 1) = 0) ∨ (co p % 16 = 5 ∧ sk (t - 1) ≠ 0) then e_st co n W f (co p / 16) t sk
      else if co p % 16 = 4 ∨ co p % 16 = 5 then e_st co n W f (p + 1) (t - 1) sk
      else if 1000000000 < e_cb (co p % 16) (sk (t - 2)) (sk (t - 1)) ∨ e_cb (co p % 16) (sk (t - 2)) (sk (t - 1)) < -1000000000 then none
      else e_st co n W f (p + 1) (t - 1) (cw_up sk (t - 2) (e_cb (co p % 16) (sk (t - 2)) (sk (t - 1)))))
    else none) := rfl
/-- a piece of code, from a to b, where so many parts stand before it, means D -/
def e_sg (co : Int → Int) (a b l : Int) (D : p_D) : Prop := ∀ (co' : Int → Int) (n : Int) (W : Int → Int) (f : Nat) (t : Int) (sk : Int → Int), (∀ i, a ≤ i → i < b → co' i = co i) → 0 ≤ a → b ≤ n → 0 ≤ t → t ≤ l → n - a ≤ f → (D W = none → e_st co' n W f a t sk = none) ∧ (∀ x, D W = some x → ∃ (f' : Nat) (sk' : Int → Int), n - b ≤ f' ∧ (∀ i, i < t → sk' i = sk i) ∧ sk' t = x ∧ e_st co' n W f a t sk = e_st co' n W f' b (t + 1) sk')
theorem e_sgc {co co1 : Int → Int} {a b l : Int} {D : p_D} (h : e_sg co a b l D) (hc : ∀ i, a ≤ i → i < b → co1 i = co i) : e_sg co1 a b l D := by
  intro co' n W f t sk h1 h2 h3 h4 h5 h6
  exact h co' n W f t sk (fun i a b => by rw [h1 i a b, hc i a b]) h2 h3 h4 h5 h6
theorem e_num {co : Int → Int} {a l v : Int} (hc : co a = 16 * v + 1) (hl : l < 50) : e_sg co a (a + 1) l (fun _ => some v) := by
  intro co' n W f t sk h1 h2 h3 h4 h5 h6
  have e := h1 a (Int.le_refl _) (by omega)
  obtain ⟨g, rfl⟩ : ∃ g, f = g + 1 := ⟨f - 1, by omega⟩
  refine ⟨fun q => (by cases q), fun x hx => ⟨g, cw_up sk t v, by omega, fun i hi => cw_up_ne (by omega), by rw [cw_up_eq]; exact Option.some.inj hx, ?_⟩⟩
  rw [e_stS, if_pos (by omega), if_pos (by omega), if_neg (by omega), if_pos (by omega), show co' a / 16 = v by omega]
theorem e_wrd {co : Int → Int} {a l w : Int} (hc : co a = 16 * w + 2) (hw : w < 17) (hl : l < 50) : e_sg co a (a + 1) l (fun E => some (E w)) := by
  intro co' n W f t sk h1 h2 h3 h4 h5 h6
  have e := h1 a (Int.le_refl _) (by omega)
  obtain ⟨g, rfl⟩ : ∃ g, f = g + 1 := ⟨f - 1, by omega⟩
  refine ⟨fun q => (by cases q), fun x hx => ⟨g, cw_up sk t (W w), by omega, fun i hi => cw_up_ne (by omega), by rw [cw_up_eq]; exact Option.some.inj hx, ?_⟩⟩
  rw [e_stS, if_pos (by omega), if_pos (by omega), if_neg (by omega), if_neg (by omega), show co' a / 16 = w by omega]
def e_bo (op o : Int) : Prop := (op = 6 ∧ o = 143) ∨ (op = 7 ∧ o = 145) ∨ (op = 8 ∧ o = 142) ∨ (op = 9 ∧ o = 147) ∨ (op = 10 ∧ o = 137)
theorem e_pw {x : Int} : p_w x = if 1000000000 < x ∨ x < -1000000000 then none else some x := by
  unfold p_w
  by_cases h : 1000000000 < x ∨ x < -1000000000
  · rw [if_pos h, if_neg (by omega)]
  · rw [if_neg h, if_pos (by omega)]
theorem e_op {op o x y : Int} (h : e_bo op o) : p_op o x y = if 1000000000 < e_cb op x y ∨ e_cb op x y < -1000000000 then none else some (e_cb op x y) := by
  rcases h with ⟨rfl, rfl⟩ | ⟨rfl, rfl⟩ | ⟨rfl, rfl⟩ | ⟨rfl, rfl⟩ | ⟨rfl, rfl⟩
  · exact e_pw
  · exact e_pw
  · exact e_pw
  · by_cases hy : y = 0
    · subst hy; rfl
    · have e1 : p_op 147 x y = p_w (x.tdiv y) := by
        show (if y = 0 then none else p_w (x.tdiv y)) = _
        rw [if_neg hy]
      have e2 : e_cb 9 x y = x.tdiv y := by
        show (if y = 0 then -2000000000 else x.tdiv y) = _
        rw [if_neg hy]
      rw [e1, e2]; exact e_pw
  · by_cases hy : y = 0
    · subst hy; rfl
    · have e1 : p_op 137 x y = p_w (x.tmod y) := by
        show (if y = 0 then none else p_w (x.tmod y)) = _
        rw [if_neg hy]
      have e2 : e_cb 10 x y = x.tmod y := by
        show (if y = 0 then -2000000000 else x.tmod y) = _
        rw [if_neg hy]
      rw [e1, e2]; exact e_pw
/-- two pieces, one behind the other, then one step -/
theorem e_two {co : Int → Int} {a b e l l1 : Int} {A B D : p_D} (h1 : e_sg co a b l A) (h2 : e_sg co b e l1 B) (hl : l + 1 ≤ l1) (ha : a ≤ b) (hb : b ≤ e) (hn : ∀ W, A W = none → D W = none) (hn2 : ∀ W, B W = none → D W = none) (hs : ∀ (co' : Int → Int) (n : Int) (W : Int → Int) (g : Nat) (t x y : Int) (sk : Int → Int), co' e = co e → 0 ≤ e → e < n → 0 ≤ t → A W = some x → B W = some y → sk t = x → sk (t + 1) = y → (D W = none → e_st co' n W (g + 1) e (t + 2) sk = none) ∧ (∀ z, D W = some z → e_st co' n W (g + 1) e (t + 2) sk = e_st co' n W g (e + 1) (t + 1) (cw_up sk t z))) : e_sg co a (e + 1) l D := by
  intro co' n W f t sk hco ha0 hbn ht htl hf
  have H1 := h1 co' n W f t sk (fun i p q => hco i p (by omega)) ha0 (by omega) ht htl hf
  cases hA : A W with
  | none => exact ⟨fun _ => H1.1 hA, fun x hx => by rw [hn W hA] at hx; cases hx⟩
  | some x =>
    obtain ⟨f1, sk1, g1, g2, g3, g4⟩ := H1.2 x hA
    have H2 := h2 co' n W f1 (t + 1) sk1 (fun i p q => hco i (by omega) (by omega)) (by omega) (by omega) (by omega) (by omega) g1
    cases hB : B W with
    | none => exact ⟨fun _ => by rw [g4]; exact H2.1 hB, fun x hx => by rw [hn2 W hB] at hx; cases hx⟩
    | some y =>
      obtain ⟨f2, sk2, k1, k2, k3, k4⟩ := H2.2 y hB
      obtain ⟨g, rfl⟩ : ∃ g, f2 = g + 1 := ⟨f2 - 1, by omega⟩
      have k4 : e_st co' n W f1 b (t + 1) sk1 = e_st co' n W (g + 1) e (t + 2) sk2 := by rw [k4, show t + 1 + 1 = t + 2 by omega]
      have S := hs co' n W g t x y sk2 (hco e (by omega) (by omega)) (by omega) (by omega) ht hA hB (by rw [k2 t (by omega), g3]) k3
      refine ⟨fun q => by rw [g4, k4]; exact S.1 q, fun z hz => ⟨g, cw_up sk2 t z, by omega, fun i hi => ?_, cw_up_eq, by rw [g4, k4]; exact S.2 z hz⟩⟩
      rw [cw_up_ne (by omega), k2 i (by omega), g2 i hi]
theorem e_bn {co : Int → Int} {a b e l l1 o op : Int} {A B : p_D} (h1 : e_sg co a b l A) (h2 : e_sg co b e l1 B) (hl : l + 1 ≤ l1) (ha : a ≤ b) (hb : b ≤ e) (ho : co e = op) (hop : e_bo op o) : e_sg co a (e + 1) l (p_bin o A B) := by
  refine e_two h1 h2 hl ha hb (fun W h => by unfold p_bin; rw [h]) (fun W h => by unfold p_bin; rw [h]; cases A W <;> rfl) (fun co' n W g t x y sk e1 e2 e3 ht hA hB s1 s2 => ?_)
  have hD : p_bin o A B W = p_op o x y := by unfold p_bin; rw [hA, hB]
  have hm : co' e % 16 = op := by unfold e_bo at hop; omega
  have h5 : 5 < op ∧ op < 16 := by unfold e_bo at hop; omega
  have hst : e_st co' n W (g + 1) e (t + 2) sk = if 1000000000 < e_cb op x y ∨ e_cb op x y < -1000000000 then none else e_st co' n W g (e + 1) (t + 1) (cw_up sk t (e_cb op x y)) := by
    rw [e_stS, if_pos (by omega), hm, if_neg (by omega), if_neg (by omega), if_neg (by omega), if_neg (by omega), if_neg (by omega), if_neg (by omega), show t + 2 - 2 = t by omega, show t + 2 - 1 = t + 1 by omega, s1, s2]
  rw [hD, e_op hop, hst]
  by_cases q : 1000000000 < e_cb op x y ∨ e_cb op x y < -1000000000
  · rw [if_pos q, if_pos q]; exact ⟨fun _ => rfl, fun z hz => by cases hz⟩
  · rw [if_neg q, if_neg q]; exact ⟨fun h => (by cases h), fun z hz => by rw [Option.some.inj hz]⟩
def e_co (op o : Int) : Prop := (op = 11 ∧ o = 160) ∨ (op = 12 ∧ o = 162) ∨ (op = 13 ∧ o = 161)
theorem e_cm {co : Int → Int} {a b e l l1 o op : Int} {A B : p_D} (h1 : e_sg co a b l A) (h2 : e_sg co b e l1 B) (hl : l + 1 ≤ l1) (ha : a ≤ b) (hb : b ≤ e) (ho : co e = op) (hop : e_co op o) : e_sg co a (e + 1) l (p_cmp o A B) := by
  refine e_two h1 h2 hl ha hb (fun W h => by unfold p_cmp; rw [h]) (fun W h => by unfold p_cmp; rw [h]; cases A W <;> rfl) (fun co' n W g t x y sk e1 e2 e3 ht hA hB s1 s2 => ?_)
  have hD : p_cmp o A B W = some (p_rel o x y) := by unfold p_cmp; rw [hA, hB]
  have hm : co' e % 16 = op := by unfold e_co at hop; omega
  have h5 : 5 < op ∧ op < 16 := by unfold e_co at hop; omega
  have hr : e_cb op x y = p_rel o x y ∧ (p_rel o x y = 0 ∨ p_rel o x y = 1) := by
    rcases hop with ⟨rfl, rfl⟩ | ⟨rfl, rfl⟩ | ⟨rfl, rfl⟩
    · refine ⟨rfl, ?_⟩; show (if x < y then (1 : Int) else 0) = 0 ∨ (if x < y then (1 : Int) else 0) = 1; split <;> omega
    · refine ⟨rfl, ?_⟩; show (if y < x then (1 : Int) else 0) = 0 ∨ (if y < x then (1 : Int) else 0) = 1; split <;> omega
    · refine ⟨rfl, ?_⟩; show (if x = y then (1 : Int) else 0) = 0 ∨ (if x = y then (1 : Int) else 0) = 1; split <;> omega
  have hst : e_st co' n W (g + 1) e (t + 2) sk = e_st co' n W g (e + 1) (t + 1) (cw_up sk t (e_cb op x y)) := by
    rw [e_stS, if_pos (by omega), hm, if_neg (by omega), if_neg (by omega), if_neg (by omega), if_neg (by omega), if_neg (by omega), if_neg (by omega), show t + 2 - 2 = t by omega, show t + 2 - 1 = t + 1 by omega, s1, s2, if_neg (by omega)]
  rw [hD, hst, hr.1]
  exact ⟨fun h => (by cases h), fun z hz => (by rw [Option.some.inj hz])⟩
theorem e_nt {co : Int → Int} {a b l : Int} {A : p_D} (h1 : e_sg co a b l A) (ha : a ≤ b) (ho : co b = 3) : e_sg co a (b + 1) l (p_not A) := by
  intro co' n W f t sk hco ha0 hbn ht htl hf
  have H1 := h1 co' n W f t sk (fun i p q => hco i p (by omega)) ha0 (by omega) ht htl hf
  cases hA : A W with
  | none => exact ⟨fun _ => H1.1 hA, fun x hx => by unfold p_not at hx; rw [hA] at hx; cases hx⟩
  | some x =>
    obtain ⟨f1, sk1, g1, g2, g3, g4⟩ := H1.2 x hA
    obtain ⟨g, rfl⟩ : ∃ g, f1 = g + 1 := ⟨f1 - 1, by omega⟩
    have hD : p_not A W = some (1 - x) := by unfold p_not; rw [hA]
    have e := hco b (by omega) (by omega)
    rw [hD]
    refine ⟨fun h => (by cases h), fun z hz => ⟨g, cw_up sk1 t (1 - x), by omega, fun i hi => by rw [cw_up_ne (by omega), g2 i hi], by rw [cw_up_eq]; exact Option.some.inj hz, ?_⟩⟩
    rw [g4, e_stS, if_pos (by omega), if_neg (by omega), if_neg (by omega), if_neg (by omega), if_pos (by omega), show t + 1 - 1 = t by omega, g3]
theorem e_an {co : Int → Int} {a p b l l1 : Int} {A B : p_D} (h1 : e_sg co a p l A) (h2 : e_sg co (p + 1) b l1 B) (hl : l ≤ l1) (ha : a ≤ p) (hb : p + 1 ≤ b) (ho : co p = 16 * b + 4) : e_sg co a b l (p_and A B) := by
  intro co' n W f t sk hco ha0 hbn ht htl hf
  have H1 := h1 co' n W f t sk (fun i p q => hco i p (by omega)) ha0 (by omega) ht htl hf
  cases hA : A W with
  | none => exact ⟨fun _ => H1.1 hA, fun x hx => by unfold p_and at hx; rw [hA] at hx; cases hx⟩
  | some x =>
    obtain ⟨f1, sk1, g1, g2, g3, g4⟩ := H1.2 x hA
    obtain ⟨g, rfl⟩ : ∃ g, f1 = g + 1 := ⟨f1 - 1, by omega⟩
    have e := hco p (by omega) (by omega)
    have hD : p_and A B W = if x = 0 then some x else B W := by unfold p_and; rw [hA]
    rw [hD]
    by_cases hx : x = 0
    · rw [if_pos hx]
      refine ⟨fun h => (by cases h), fun z hz => ⟨g, sk1, by omega, g2, by rw [g3]; exact Option.some.inj hz, ?_⟩⟩
      rw [g4, e_stS, if_pos (by omega), if_neg (by omega), if_neg (by omega), if_neg (by omega), if_neg (by omega), show t + 1 - 1 = t by omega, g3, if_pos (by omega), show co' p / 16 = b by omega]
    · rw [if_neg hx]
      have hst : e_st co' n W (g + 1) p (t + 1) sk1 = e_st co' n W g (p + 1) t sk1 := by
        rw [e_stS, if_pos (by omega), if_neg (by omega), if_neg (by omega), if_neg (by omega), if_neg (by omega), show t + 1 - 1 = t by omega, g3, if_neg (by omega), if_pos (by omega)]
      have H2 := h2 co' n W g t sk1 (fun i p q => hco i (by omega) (by omega)) (by omega) (by omega) (by omega) (by omega) (by omega)
      refine ⟨fun q => by rw [g4, hst]; exact H2.1 q, fun z hz => ?_⟩
      obtain ⟨f2, sk2, k1, k2, k3, k4⟩ := H2.2 z hz
      exact ⟨f2, sk2, k1, fun i hi => by rw [k2 i hi, g2 i hi], k3, by rw [g4, hst, k4]⟩
theorem e_or {co : Int → Int} {a p b l l1 : Int} {A B : p_D} (h1 : e_sg co a p l A) (h2 : e_sg co (p + 1) b l1 B) (hl : l ≤ l1) (ha : a ≤ p) (hb : p + 1 ≤ b) (ho : co p = 16 * b + 5) : e_sg co a b l (p_or A B) := by
  intro co' n W f t sk hco ha0 hbn ht htl hf
  have H1 := h1 co' n W f t sk (fun i p q => hco i p (by omega)) ha0 (by omega) ht htl hf
  cases hA : A W with
  | none => exact ⟨fun _ => H1.1 hA, fun x hx => by unfold p_or at hx; rw [hA] at hx; cases hx⟩
  | some x =>
    obtain ⟨f1, sk1, g1, g2, g3, g4⟩ := H1.2 x hA
    obtain ⟨g, rfl⟩ : ∃ g, f1 = g + 1 := ⟨f1 - 1, by omega⟩
    have e := hco p (by omega) (by omega)
    have hD : p_or A B W = if x = 0 then B W else some x := by unfold p_or; rw [hA]
    rw [hD]
    by_cases hx : x = 0
    · rw [if_pos hx]
      have hst : e_st co' n W (g + 1) p (t + 1) sk1 = e_st co' n W g (p + 1) t sk1 := by
        rw [e_stS, if_pos (by omega), if_neg (by omega), if_neg (by omega), if_neg (by omega), if_neg (by omega), show t + 1 - 1 = t by omega, g3, if_neg (by omega), if_pos (by omega)]
      have H2 := h2 co' n W g t sk1 (fun i p q => hco i (by omega) (by omega)) (by omega) (by omega) (by omega) (by omega) (by omega)
      refine ⟨fun q => by rw [g4, hst]; exact H2.1 q, fun z hz => ?_⟩
      obtain ⟨f2, sk2, k1, k2, k3, k4⟩ := H2.2 z hz
      exact ⟨f2, sk2, k1, fun i hi => by rw [k2 i hi, g2 i hi], k3, by rw [g4, hst, k4]⟩
    · rw [if_neg hx]
      refine ⟨fun h => (by cases h), fun z hz => ⟨g, sk1, by omega, g2, by rw [g3]; exact Option.some.inj hz, ?_⟩⟩
      rw [g4, e_stS, if_pos (by omega), if_neg (by omega), if_neg (by omega), if_neg (by omega), if_neg (by omega), show t + 1 - 1 = t by omega, g3, if_pos (by omega), show co' p / 16 = b by omega]
/-- a piece with its end behind it, run on its own -/
theorem e_fin {co : Int → Int} {a b l n : Int} {D : p_D} {W sk : Int → Int} (h : e_sg co a b l D) (he : co b = 0) (ha : 0 ≤ a) (hl : 0 ≤ l) (hb : b < n) (hab : a ≤ b) : e_st co n W n.toNat a 0 sk = D W := by
  have H := h co n W n.toNat 0 sk (fun i _ _ => rfl) ha (by omega) (Int.le_refl 0) hl (by omega)
  cases hD : D W with
  | none => exact H.1 hD
  | some x =>
    obtain ⟨f1, sk1, g1, g2, g3, g4⟩ := H.2 x hD
    obtain ⟨g, rfl⟩ : ∃ g, f1 = g + 1 := ⟨f1 - 1, by omega⟩
    rw [g4, e_stS, if_pos (by omega), if_neg (by omega), if_neg (by omega), if_pos (by omega), show (0 : Int) + 1 - 1 = 0 by omega, g3]
