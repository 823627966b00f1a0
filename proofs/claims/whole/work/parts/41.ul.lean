/-! The unrolling that knows the layout: references are followed by the table, tags are looked up, numbers must fit. -/
def la_t (c : Int) (t : Nat) : Bool := Nat.beq (cw_tg c).toNat t
def la_o (c : Int) : Bool := Nat.ble 33554432 c.toNat
def la_nn (y : Int) : Bool := match y with
  | Int.ofNat _ => true
  | Int.negSucc _ => false
theorem la_t_ok {c : Int} {t : Nat} (h : la_t c t = true) : cw_tg c = (t : Int) := by
  have := Nat.eq_of_beq_eq_true h
  have h2 : 0 ≤ cw_tg c := by unfold cw_tg; omega
  omega
theorem la_o_ok {c : Int} (h : la_o c = true) : 33554432 ≤ c := by
  have := Nat.le_of_ble_eq_true h
  omega
theorem la_nn_ok {y : Int} (h : la_nn y = true) : 0 ≤ y := by
  cases y with
  | ofNat n => exact Int.natCast_nonneg n
  | negSucc n => cases h
def la_stp (q : cw_A) (ls st : List cw_V) (m : cw_M) : Option cw_O := match q with
  | (pc, len, i, a, b, x, y) => match i with
    | .iadd => cw_p2 st fun u v s => cw_ck (-2147483648 ≤ u + v ∧ u + v < 2147483648) (pc + len) ls (vi (u + v) :: s) m
    | .isub => cw_p2 st fun u v s => cw_ck (-2147483648 ≤ u - v ∧ u - v < 2147483648) (pc + len) ls (vi (u - v) :: s) m
    | .imul => cw_p2 st fun u v s => cw_ck (-2147483648 ≤ u * v ∧ u * v < 2147483648) (pc + len) ls (vi (u * v) :: s) m
    | .idiv => cw_p2 st fun u v s => cw_ck (0 ≤ u ∧ u < 2147483648 ∧ 0 < v) (pc + len) ls (vi (u / v) :: s) m
    | .irem => cw_p2 st fun u v s => cw_ck (0 ≤ u ∧ 0 < v) (pc + len) ls (vi (u % v) :: s) m
    | .ineg => cw_p1 st fun u s => cw_ck (-2147483648 ≤ -u ∧ -u < 2147483648) (pc + len) ls (vi (-u) :: s) m
    | .iinc _ _ => cw_gi ls a fun v => cw_st ls a (vi (v + x)) fun ls' => cw_ck (-2147483648 ≤ v + x ∧ v + x < 2147483648) (pc + len) ls' st m
    | .ladd => cw_l2 st fun u v s => cw_ck (-9223372036854775808 ≤ u + v ∧ u + v < 9223372036854775808) (pc + len) ls (vl (u + v) :: s) m
    | .lsub => cw_l2 st fun u v s => cw_ck (-9223372036854775808 ≤ u - v ∧ u - v < 9223372036854775808) (pc + len) ls (vl (u - v) :: s) m
    | .lmul => cw_l2 st fun u v s => cw_ck (-9223372036854775808 ≤ u * v ∧ u * v < 9223372036854775808) (pc + len) ls (vl (u * v) :: s) m
    | .ldiv => cw_l2 st fun u v s => cw_ck (v ≠ 0 ∧ -9223372036854775808 ≤ u.tdiv v ∧ u.tdiv v < 9223372036854775808) (pc + len) ls (vl (u.tdiv v) :: s) m
    | .l2i => cw_l1 st fun u s => cw_ck (-2147483648 ≤ u ∧ u < 2147483648) (pc + len) ls (vi u :: s) m
    | .getfield _ => cw_r1 st fun c s => bif la_t c x.toNat && la_nn y && la_nn x then (match la_n c.toNat y.toNat with
      | some v => cw_go (pc + len) ls (cw_kv a v :: s) m
      | none => cw_go (pc + len) ls (cw_kv a (m c y) :: s) m) else none
    | .putfield _ => match a with
      | 0 => cw_p1 st fun v s => cw_r1 s fun c s' => bif la_t c x.toNat && la_nn x && la_o c && (la_n c.toNat y.toNat).isNone then (match b with
        | 0 => cw_go (pc + len) ls s' (cw_put m c y v)
        | b => cw_ck (cw_ok b v) (pc + len) ls s' (cw_put m c y v)) else none
      | 1 => none
      | _ => cw_r1 st fun v s => cw_r1 s fun c s' => bif la_t c x.toNat && la_nn x && la_o c && (la_n c.toNat y.toNat).isNone then cw_go (pc + len) ls s' (cw_put m c y v) else none
    | .arraylength => cw_r1 st fun c s => bif Nat.ble 40 (cw_tg c).toNat then cw_go (pc + len) ls (vi (cw_ln c) :: s) m else none
    | .iaload => cw_ri st fun c i s => bif la_t c 40 then cw_ck (0 ≤ i ∧ i < cw_ln c) (pc + len) ls (vi (m c i) :: s) m else none
    | .laload => cw_ri st fun c i s => bif la_t c 41 then cw_ck (0 ≤ i ∧ i < cw_ln c) (pc + len) ls (vl (m c i) :: s) m else none
    | .baload => cw_ri st fun c i s => bif la_t c 42 || la_t c 43 then cw_ck (0 ≤ i ∧ i < cw_ln c) (pc + len) ls (vi (m c i) :: s) m else none
    | .aaload => cw_ri st fun c i s => bif la_t c 44 || la_t c 45 then cw_ck (0 ≤ i ∧ i < cw_ln c) (pc + len) ls (vr (m c i) :: s) m else none
    | .iastore => cw_rii st fun c i v s => bif la_t c 40 && la_o c then cw_ck (0 ≤ i ∧ i < cw_ln c) (pc + len) ls s (cw_put m c i v) else none
    | .lastore => cw_ril st fun c i v s => bif la_t c 41 && la_o c then cw_ck (0 ≤ i ∧ i < cw_ln c) (pc + len) ls s (cw_put m c i v) else none
    | .bastore => cw_rii st fun c i v s => bif la_t c 42 && la_o c then cw_ck (cw_ok 1 v ∧ 0 ≤ i ∧ i < cw_ln c) (pc + len) ls s (cw_put m c i v) else bif la_t c 43 && la_o c then cw_ck (cw_ok 3 v ∧ 0 ≤ i ∧ i < cw_ln c) (pc + len) ls s (cw_put m c i v) else none
    | .aastore => cw_rir st fun c i v s => bif la_t c 44 && la_o c then cw_ck ((v = 0 ∨ cw_tg v = 8) ∧ 0 ≤ i ∧ i < cw_ln c) (pc + len) ls s (cw_put m c i v) else bif la_t c 45 && la_o c then cw_ck ((v = 0 ∨ cw_tg v = 9) ∧ 0 ≤ i ∧ i < cw_ln c) (pc + len) ls s (cw_put m c i v) else none
    | .new _ => bif la_nn x && Nat.ble x.toNat 63 && la_nn y && Nat.ble y.toNat 16383 then cw_ck (m (-1) 0 < cw_LC ∧ m (-1) 1 + y ≤ cw_LS) (pc + len) ls (vr (cw_nc m x y) :: st) (cw_new m x y) else none
    | .newarray _ => bif la_nn x && Nat.ble x.toNat 63 then cw_p1 st fun n s => cw_ck ((0 ≤ n ∧ n < 16384) ∧ m (-1) 0 < cw_LC ∧ m (-1) 1 + n ≤ cw_LS) (pc + len) ls (vr (cw_nc m x n) :: s) (cw_new m x n) else none
    | .anewarray _ => bif la_nn x && Nat.ble x.toNat 63 then cw_p1 st fun n s => cw_ck ((0 ≤ n ∧ n < 16384) ∧ m (-1) 0 < cw_LC ∧ m (-1) 1 + n ≤ cw_LS) (pc + len) ls (vr (cw_nc m x n) :: s) (cw_new m x n) else none
    | .invokespecial _ => match a with
      | 0 => cw_r1 st fun c s => bif Nat.ble (cw_cs s) 8 && Nat.ble 1 c.toNat then cw_go (pc + len) ls s m else none
      | a => cw_pn b st [] fun as s => bif Nat.ble (cw_cs s) 8 && Nat.ble (cw_cs as) y.toNat then (match as with
        | some (.inr (.inr c)) :: t => bif la_t c x.toNat && la_nn x then cw_cl a (vr c :: t) (pc + len) s else none
        | _ => none) else none
    | .invokevirtual _ => cw_pn b st [] fun as s => bif Nat.ble (cw_cs s) 8 && Nat.ble (cw_cs as) y.toNat then (match as with
        | some (.inr (.inr c)) :: t => bif la_t c x.toNat && la_nn x then cw_cl a (vr c :: t) (pc + len) s else none
        | _ => none) else none
    | .invokestatic _ => match a with
      | 0 => match st with
        | some (.inl n) :: some (.inl dp) :: some (.inr (.inr d)) :: some (.inl sp) :: some (.inr (.inr c)) :: s => bif Nat.ble (cw_cs s) 8 && la_t c 40 && la_t d 40 && la_o c && la_o d then cw_ck ((0 ≤ sp ∧ 0 ≤ dp ∧ 0 ≤ n) ∧ sp + n ≤ cw_ln c ∧ dp + n ≤ cw_ln d) (pc + len) ls s (cw_cpy m c sp d dp n) else none
        | _ => none
      | a => cw_pn b st [] fun as s => bif Nat.ble (cw_cs s) 8 && Nat.ble (cw_cs as) y.toNat then cw_cl a as (pc + len) s else none
    | _ => cw_stp q ls st m
/-- a step that leaves the memory -/
def la_om (m : cw_M) (o : Option cw_O) : Prop := match o with
  | some (.inl (_, _, _, m')) => m' = m
  | some (.inr (.inl (_, _, _, _, m'))) => m' = m
  | _ => True
section LAO
variable {P : Option cw_O → Prop} {ls st : List cw_V}
theorem la_p1 (h0 : P none) {f : Int → List cw_V → Option cw_O} (h : ∀ x s, P (f x s)) : P (cw_p1 st f) := by
  rcases st with _ | ⟨_ | x | x | x, s⟩ <;> first | exact h0 | exact h _ _
theorem la_l1 (h0 : P none) {f : Int → List cw_V → Option cw_O} (h : ∀ x s, P (f x s)) : P (cw_l1 st f) := by
  rcases st with _ | ⟨_ | x | x | x, s⟩ <;> first | exact h0 | exact h _ _
theorem la_r1 (h0 : P none) {f : Int → List cw_V → Option cw_O} (h : ∀ x s, P (f x s)) : P (cw_r1 st f) := by
  rcases st with _ | ⟨_ | x | x | x, s⟩ <;> first | exact h0 | exact h _ _
theorem la_p2 (h0 : P none) {f : Int → Int → List cw_V → Option cw_O} (h : ∀ x y s, P (f x y s)) : P (cw_p2 st f) := by
  rcases st with _ | ⟨_ | y | y | y, _ | ⟨_ | x | x | x, s⟩⟩ <;> first | exact h0 | exact h _ _ _
theorem la_l2 (h0 : P none) {f : Int → Int → List cw_V → Option cw_O} (h : ∀ x y s, P (f x y s)) : P (cw_l2 st f) := by
  rcases st with _ | ⟨_ | y | y | y, _ | ⟨_ | x | x | x, s⟩⟩ <;> first | exact h0 | exact h _ _ _
theorem la_li (h0 : P none) {f : Int → Int → List cw_V → Option cw_O} (h : ∀ x y s, P (f x y s)) : P (cw_li st f) := by
  rcases st with _ | ⟨_ | y | y | y, _ | ⟨_ | x | x | x, s⟩⟩ <;> first | exact h0 | exact h _ _ _
theorem la_gi (h0 : P none) {n : Nat} {f : Int → Option cw_O} (h : ∀ x, P (f x)) : P (cw_gi ls n f) := by
  unfold cw_gi; split <;> first | exact h0 | exact h _
theorem la_gl (h0 : P none) {n : Nat} {f : Int → Option cw_O} (h : ∀ x, P (f x)) : P (cw_gl ls n f) := by
  unfold cw_gl; split <;> first | exact h0 | exact h _
theorem la_gr (h0 : P none) {n : Nat} {f : Int → Option cw_O} (h : ∀ x, P (f x)) : P (cw_gr ls n f) := by
  unfold cw_gr; split <;> first | exact h0 | exact h _
theorem la_st (h0 : P none) : ∀ {l : List cw_V} {n : Nat} {v : cw_V} {k : List cw_V → Option cw_O}, (∀ l, P (k l)) → P (cw_st l n v k)
  | [], _, _, _, _ => h0
  | _ :: _, 0, _, _, h => h _
  | a :: t, 1, v, k, h => by
    rcases t with _ | ⟨b, t⟩
    · rcases a with _ | x | x | x <;> exact h0
    · rcases a with _ | x | x | x <;> exact h _
  | a :: t, n + 2, v, k, h => la_st h0 (l := t) (n := n + 1) (fun l => h _)
theorem la_bif (h0 : P none) {b : Bool} {o : Option cw_O} (h : P o) : P (bif b then o else none) := by
  cases b
  · exact h0
  · exact h
end LAO
section LAS
variable {K K' : Nat → List cw_V → List cw_V → cw_M → Prop} {C : Nat → List cw_V → cw_M → (Option cw_V → cw_M → Prop) → Prop} {Q : Option cw_V → cw_M → Prop} {ls st : List cw_V} {m : cw_M}
/-- the callee must keep the layout -/
def la_C (C : Nat → List cw_V → cw_M → (Option cw_V → cw_M → Prop) → Prop) : Nat → List cw_V → cw_M → (Option cw_V → cw_M → Prop) → Prop := fun y as m R => C y as m (fun r m' => la_ok m' ∧ R r m')
theorem la_fall (hm : la_ok m) (hK : ∀ pc ls st m, la_ok m → K pc ls st m → K' pc ls st m) (hC : ∀ y as m R R', (∀ r m, R r m → R' r m) → C y as m R → C y as m R') {o : Option cw_O} (ho : la_om m o) (h : cw_G K (la_C C) Q ls m o) : cw_G K' C Q ls m o := by
  unfold cw_G at h ⊢
  unfold la_om at ho
  split at h
  · exact h
  · subst ho; exact hK _ _ _ _ hm h
  · subst ho; exact ⟨h.1, hK _ _ _ _ hm h.2⟩
  · exact ⟨fun p => hK _ _ _ _ hm (h.1 p), fun p => hK _ _ _ _ hm (h.2 p)⟩
  · exact hC _ _ _ _ _ (fun r m h => hK _ _ _ _ h.1 h.2) h
  · exact ⟨h.1, hC _ _ _ _ _ (fun r m h => hK _ _ _ _ h.1 h.2) h.2⟩
  · exact h
  · exact h
theorem la_bif2 {b : Bool} {o1 o2 : Option cw_O} (h : cw_G K C Q ls m (bif b then o1 else o2)) : (b = true ∧ cw_G K C Q ls m o1) ∨ cw_G K C Q ls m o2 := by
  cases b
  · exact Or.inr h
  · exact Or.inl ⟨rfl, h⟩
theorem la_pn {C' : Nat → List cw_V → cw_M → (Option cw_V → cw_M → Prop) → Prop} {k k' : List cw_V → List cw_V → Option cw_O} (hk : ∀ as s, cw_G K C' Q ls m (k as s) → cw_G K' C Q ls m (k' as s)) : ∀ (n : Nat) (l acc : List cw_V), cw_G K C' Q ls m (cw_pn n l acc k) → cw_G K' C Q ls m (cw_pn n l acc k')
  | 0, l, acc, h => hk _ _ h
  | n + 1, [], acc, h => (h : False).elim
  | n + 1, v :: l, acc, h => la_pn hk n l (v :: acc) h
theorem la_tx {c x : Int} (h : la_t c x.toNat = true) (hx : la_nn x = true) : cw_tg c = x := by
  have h1 := la_t_ok h
  have h2 := la_nn_ok hx
  omega
theorem la_bt {b : Bool} {o : Option cw_O} (hb : b = true) (h : cw_G K C Q ls m o) : cw_G K C Q ls m (bif b then o else none) := by
  subst hb; exact h
theorem la_step (hm : la_ok m) (hK : ∀ pc ls st m, la_ok m → K pc ls st m → K' pc ls st m) (hC : ∀ y as m R R', (∀ r m, R r m → R' r m) → C y as m R → C y as m R') {q : cw_A} (h : cw_G K (la_C C) Q ls m (la_stp q ls st m)) : cw_G K' C Q ls m (cw_stp q ls st m) := by
  obtain ⟨pc, len, i, a, b, x, y⟩ := q
  have hcall : ∀ {z : Nat} {as : List cw_V} {n : Nat} {s : List cw_V}, la_C C z as m (fun r m' => K n ls (r.toList ++ s) m') → C z as m (fun r m' => K' n ls (r.toList ++ s) m') := fun h => hC _ _ _ _ _ (fun r m h => hK _ _ _ _ h.1 h.2) h
  cases i with
  | iadd =>
    obtain ⟨u, v, s, rfl, h⟩ := cw_p2_inv h
    obtain ⟨h1, h⟩ := h
    show K' (pc + len) ls (vi (cw_w (u + v)) :: s) m
    rw [cw_w_id h1]; exact hK _ _ _ _ hm h
  | isub =>
    obtain ⟨u, v, s, rfl, h⟩ := cw_p2_inv h
    obtain ⟨h1, h⟩ := h
    show K' (pc + len) ls (vi (cw_w (u - v)) :: s) m
    rw [cw_w_id h1]; exact hK _ _ _ _ hm h
  | imul =>
    obtain ⟨u, v, s, rfl, h⟩ := cw_p2_inv h
    obtain ⟨h1, h⟩ := h
    show K' (pc + len) ls (vi (cw_w (u * v)) :: s) m
    rw [cw_w_id h1]; exact hK _ _ _ _ hm h
  | ineg =>
    obtain ⟨u, s, rfl, h⟩ := cw_p1_inv h
    obtain ⟨h1, h⟩ := h
    show K' (pc + len) ls (vi (cw_w (-u)) :: s) m
    rw [cw_w_id h1]; exact hK _ _ _ _ hm h
  | idiv =>
    obtain ⟨u, v, s, rfl, h⟩ := cw_p2_inv h
    obtain ⟨⟨h1, h2, h3⟩, h⟩ := h
    refine ⟨by omega, ?_⟩
    have hle : u / v ≤ u := Int.ediv_le_self v h1
    have hnn : 0 ≤ u / v := Int.ediv_nonneg h1 (by omega)
    show K' (pc + len) ls (vi (cw_w (u.tdiv v)) :: s) m
    rw [Int.tdiv_eq_ediv_of_nonneg h1, cw_w_id ⟨by omega, by omega⟩]; exact hK _ _ _ _ hm h
  | irem =>
    obtain ⟨u, v, s, rfl, h⟩ := cw_p2_inv h
    obtain ⟨⟨h1, h3⟩, h⟩ := h
    refine ⟨by omega, ?_⟩
    show K' (pc + len) ls (vi (u.tmod v) :: s) m
    rw [Int.tmod_eq_emod_of_nonneg h1]; exact hK _ _ _ _ hm h
  | iinc n k =>
    obtain ⟨v, hv, h⟩ := cw_gi_inv h
    show cw_G K' C Q ls m (cw_gi ls a fun v => cw_st ls a (vi (cw_w (v + x))) fun ls' => cw_go (pc + len) ls' st m)
    unfold cw_gi
    rw [hv]
    have key : ∀ {l : List cw_V} {n : Nat} {w : cw_V} {k k' : List cw_V → Option cw_O}, (∀ l, cw_G K (la_C C) Q ls m (k l) → cw_G K' C Q ls m (k' l)) → cw_G K (la_C C) Q ls m (cw_st l n w k) → cw_G K' C Q ls m (cw_st l n w k') := by
      intro l
      induction l with
      | nil => intro n w k k' _ h; exact (h : False).elim
      | cons a t ih =>
        intro n w k k' hk h
        match n, h with
        | 0, h => exact hk _ h
        | 1, h =>
          rcases t with _ | ⟨b, t⟩
          · rcases a with _ | x | x | x <;> exact (h : False).elim
          · rcases a with _ | x | x | x <;> exact hk _ h
        | n + 2, h => exact ih (n := n + 1) (fun l h => hk _ h) h
    by_cases hr : -2147483648 ≤ v + x ∧ v + x < 2147483648
    · show cw_G K' C Q ls m (cw_st ls a (vi (cw_w (v + x))) fun ls' => cw_go (pc + len) ls' st m)
      rw [cw_w_id hr]
      exact key (k := fun ls' => cw_ck (-2147483648 ≤ v + x ∧ v + x < 2147483648) (pc + len) ls' st m) (fun l h => hK _ _ _ _ hm (And.right h)) h
    · obtain ⟨l', h, -⟩ := cw_st_inv h
      exact absurd h.1 hr
  | ladd =>
    obtain ⟨u, v, s, rfl, h⟩ := cw_l2_inv h
    obtain ⟨h1, h⟩ := h
    show K' (pc + len) ls (vl (cw_wl (u + v)) :: s) m
    rw [cw_wl_id h1]; exact hK _ _ _ _ hm h
  | lsub =>
    obtain ⟨u, v, s, rfl, h⟩ := cw_l2_inv h
    obtain ⟨h1, h⟩ := h
    show K' (pc + len) ls (vl (cw_wl (u - v)) :: s) m
    rw [cw_wl_id h1]; exact hK _ _ _ _ hm h
  | lmul =>
    obtain ⟨u, v, s, rfl, h⟩ := cw_l2_inv h
    obtain ⟨h1, h⟩ := h
    show K' (pc + len) ls (vl (cw_wl (u * v)) :: s) m
    rw [cw_wl_id h1]; exact hK _ _ _ _ hm h
  | ldiv =>
    obtain ⟨u, v, s, rfl, h⟩ := cw_l2_inv h
    obtain ⟨⟨h1, h2⟩, h⟩ := h
    refine ⟨h1, ?_⟩
    show K' (pc + len) ls (vl (cw_wl (u.tdiv v)) :: s) m
    rw [cw_wl_id h2]; exact hK _ _ _ _ hm h
  | l2i =>
    obtain ⟨u, s, rfl, h⟩ := cw_l1_inv h
    obtain ⟨h1, h⟩ := h
    show K' (pc + len) ls (vi (cw_w u) :: s) m
    rw [cw_w_id h1]; exact hK _ _ _ _ hm h
  | getfield n =>
    obtain ⟨c, s, rfl, h⟩ := cw_r1_inv h
    obtain ⟨hb, h⟩ := cw_bif_inv h
    rw [Bool.and_eq_true, Bool.and_eq_true] at hb
    refine ⟨la_tx hb.1.1 hb.2, ?_⟩
    show K' (pc + len) ls (cw_kv a (m c y) :: s) m
    cases hl : la_n c.toNat y.toNat with
    | none => rw [hl] at h; exact hK _ _ _ _ hm h
    | some v =>
      rw [hl] at h
      have hc : 0 < c := by
        obtain ⟨e, he, h1, -⟩ := la_mem hl
        have := (la_lok e he).1
        omega
      rw [la_get hm hc (la_nn_ok hb.1.2) hl]
      exact hK _ _ _ _ hm h
  | putfield n =>
    match a, h with
    | 0, h =>
      obtain ⟨v, s1, rfl, h⟩ := cw_p1_inv h
      obtain ⟨c, s, rfl, h⟩ := cw_r1_inv h
      obtain ⟨hb, h⟩ := cw_bif_inv h
      rw [Bool.and_eq_true, Bool.and_eq_true, Bool.and_eq_true] at hb
      have hl : la_f c y = none := Option.isNone_iff_eq_none.mp hb.2
      have ho := la_o_ok hb.1.2
      have hm' : la_ok (cw_put m c y v) := la_put hm ho (Or.inl hl)
      match b, h with
      | 0, h => exact ⟨⟨la_tx hb.1.1.1 hb.1.1.2, ho⟩, hK _ _ _ _ hm' h⟩
      | b + 1, h => exact ⟨⟨la_tx hb.1.1.1 hb.1.1.2, ho, h.1⟩, hK _ _ _ _ hm' h.2⟩
    | 1, h => exact (h : False).elim
    | a + 2, h =>
      obtain ⟨v, s1, rfl, h⟩ := cw_r1_inv h
      obtain ⟨c, s, rfl, h⟩ := cw_r1_inv h
      obtain ⟨hb, h⟩ := cw_bif_inv h
      rw [Bool.and_eq_true, Bool.and_eq_true, Bool.and_eq_true] at hb
      have hl : la_f c y = none := Option.isNone_iff_eq_none.mp hb.2
      have ho := la_o_ok hb.1.2
      exact ⟨⟨la_tx hb.1.1.1 hb.1.1.2, ho⟩, hK _ _ _ _ (la_put hm ho (Or.inl hl)) h⟩
  | arraylength =>
    obtain ⟨c, s, rfl, h⟩ := cw_r1_inv h
    obtain ⟨hb, h⟩ := cw_bif_inv h
    have hb := Nat.le_of_ble_eq_true hb
    exact ⟨by omega, hK _ _ _ _ hm h⟩
  | iaload =>
    obtain ⟨c, i, s, rfl, h⟩ := cw_ri_inv h
    obtain ⟨hb, h⟩ := cw_bif_inv h
    exact ⟨⟨la_t_ok hb, h.1⟩, hK _ _ _ _ hm h.2⟩
  | laload =>
    obtain ⟨c, i, s, rfl, h⟩ := cw_ri_inv h
    obtain ⟨hb, h⟩ := cw_bif_inv h
    exact ⟨⟨la_t_ok hb, h.1⟩, hK _ _ _ _ hm h.2⟩
  | baload =>
    obtain ⟨c, i, s, rfl, h⟩ := cw_ri_inv h
    obtain ⟨hb, h⟩ := cw_bif_inv h
    rw [Bool.or_eq_true] at hb
    exact ⟨⟨by rcases hb with z | z; exact Or.inl (la_t_ok z); exact Or.inr (la_t_ok z), h.1⟩, hK _ _ _ _ hm h.2⟩
  | aaload =>
    obtain ⟨c, i, s, rfl, h⟩ := cw_ri_inv h
    obtain ⟨hb, h⟩ := cw_bif_inv h
    rw [Bool.or_eq_true] at hb
    exact ⟨⟨by rcases hb with z | z; exact Or.inl (la_t_ok z); exact Or.inr (la_t_ok z), h.1⟩, hK _ _ _ _ hm h.2⟩
  | iastore =>
    obtain ⟨c, i, v, s, rfl, h⟩ := cw_rii_inv h
    obtain ⟨hb, h⟩ := cw_bif_inv h
    rw [Bool.and_eq_true] at hb
    have h1 := la_t_ok hb.1
    have h2 := la_o_ok hb.2
    exact ⟨⟨⟨h1, h2⟩, h.1⟩, hK _ _ _ _ (la_put hm h2 (Or.inr (by omega))) h.2⟩
  | lastore =>
    obtain ⟨c, i, v, s, rfl, h⟩ := cw_ril_inv h
    obtain ⟨hb, h⟩ := cw_bif_inv h
    rw [Bool.and_eq_true] at hb
    have h1 := la_t_ok hb.1
    have h2 := la_o_ok hb.2
    exact ⟨⟨⟨h1, h2⟩, h.1⟩, hK _ _ _ _ (la_put hm h2 (Or.inr (by omega))) h.2⟩
  | bastore =>
    obtain ⟨c, i, v, s, rfl, h⟩ := cw_rii_inv h
    rcases la_bif2 h with ⟨hb, h⟩ | h
    · rw [Bool.and_eq_true] at hb
      have h1 := la_t_ok hb.1
      have h2 := la_o_ok hb.2
      exact ⟨⟨⟨Or.inl ⟨h1, h.1.1⟩, h2⟩, h.1.2⟩, hK _ _ _ _ (la_put hm h2 (Or.inr (by omega))) h.2⟩
    · obtain ⟨hb, h⟩ := cw_bif_inv h
      rw [Bool.and_eq_true] at hb
      have h1 := la_t_ok hb.1
      have h2 := la_o_ok hb.2
      exact ⟨⟨⟨Or.inr ⟨h1, h.1.1⟩, h2⟩, h.1.2⟩, hK _ _ _ _ (la_put hm h2 (Or.inr (by omega))) h.2⟩
  | aastore =>
    obtain ⟨c, i, v, s, rfl, h⟩ := cw_rir_inv h
    rcases la_bif2 h with ⟨hb, h⟩ | h
    · rw [Bool.and_eq_true] at hb
      have h1 := la_t_ok hb.1
      have h2 := la_o_ok hb.2
      exact ⟨⟨⟨Or.inl ⟨h1, h.1.1⟩, h2⟩, h.1.2⟩, hK _ _ _ _ (la_put hm h2 (Or.inr (by omega))) h.2⟩
    · obtain ⟨hb, h⟩ := cw_bif_inv h
      rw [Bool.and_eq_true] at hb
      have h1 := la_t_ok hb.1
      have h2 := la_o_ok hb.2
      exact ⟨⟨⟨Or.inr ⟨h1, h.1.1⟩, h2⟩, h.1.2⟩, hK _ _ _ _ (la_put hm h2 (Or.inr (by omega))) h.2⟩
  | new n =>
    obtain ⟨hb, h⟩ := cw_bif_inv h
    rw [Bool.and_eq_true, Bool.and_eq_true, Bool.and_eq_true] at hb
    have h1 := la_nn_ok hb.1.1.1
    have h2 := Nat.le_of_ble_eq_true hb.1.1.2
    have h3 := la_nn_ok hb.1.2
    have h4 := Nat.le_of_ble_eq_true hb.2
    exact ⟨h.1, hK _ _ _ _ (la_new hm ⟨by omega, by omega⟩ ⟨by omega, by omega⟩) h.2⟩
  | newarray t =>
    obtain ⟨hb, h⟩ := cw_bif_inv h
    rw [Bool.and_eq_true] at hb
    have h1 := la_nn_ok hb.1
    have h2 := Nat.le_of_ble_eq_true hb.2
    obtain ⟨n', s, rfl, h⟩ := cw_p1_inv h
    exact ⟨h.1, hK _ _ _ _ (la_new hm ⟨by omega, by omega⟩ h.1.1) h.2⟩
  | anewarray n =>
    obtain ⟨hb, h⟩ := cw_bif_inv h
    rw [Bool.and_eq_true] at hb
    have h1 := la_nn_ok hb.1
    have h2 := Nat.le_of_ble_eq_true hb.2
    obtain ⟨n', s, rfl, h⟩ := cw_p1_inv h
    exact ⟨h.1, hK _ _ _ _ (la_new hm ⟨by omega, by omega⟩ h.1.1) h.2⟩
  | invokespecial n =>
    match a, h with
    | 0, h =>
      obtain ⟨c, s, rfl, h⟩ := cw_r1_inv h
      obtain ⟨hb, h⟩ := cw_bif_inv h
      rw [Bool.and_eq_true] at hb
      have h1 := Nat.le_of_ble_eq_true hb.2
      exact la_bt hb.1 ⟨by omega, hK _ _ _ _ hm h⟩
    | a + 1, h =>
      refine la_pn (fun as s h => ?_) b st [] h
      obtain ⟨hb, h⟩ := cw_bif_inv h
      refine la_bt hb ?_
      rcases as with _ | ⟨_ | z | z | c, t⟩
      · exact (h : False).elim
      · exact (h : False).elim
      · exact (h : False).elim
      · exact (h : False).elim
      · obtain ⟨hb2, h⟩ := cw_bif_inv h
        rw [Bool.and_eq_true] at hb2
        exact ⟨la_tx hb2.1 hb2.2, hcall h⟩
  | invokevirtual n =>
    refine la_pn (fun as s h => ?_) b st [] h
    obtain ⟨hb, h⟩ := cw_bif_inv h
    refine la_bt hb ?_
    rcases as with _ | ⟨_ | z | z | c, t⟩
    · exact (h : False).elim
    · exact (h : False).elim
    · exact (h : False).elim
    · exact (h : False).elim
    · obtain ⟨hb2, h⟩ := cw_bif_inv h
      rw [Bool.and_eq_true] at hb2
      exact ⟨la_tx hb2.1 hb2.2, hcall h⟩
  | invokestatic n =>
    match a, h with
    | 0, h =>
      have h1 : cw_G K (la_C C) Q ls m (match (generalizing := false) st with
        | some (.inl n) :: some (.inl dp) :: some (.inr (.inr d)) :: some (.inl sp) :: some (.inr (.inr c)) :: s => bif Nat.ble (cw_cs s) 8 && la_t c 40 && la_t d 40 && la_o c && la_o d then cw_ck ((0 ≤ sp ∧ 0 ≤ dp ∧ 0 ≤ n) ∧ sp + n ≤ cw_ln c ∧ dp + n ≤ cw_ln d) (pc + len) ls s (cw_cpy m c sp d dp n) else none
        | _ => none) := h
      split at h1
      · obtain ⟨hb, h1⟩ := cw_bif_inv h1
        rw [Bool.and_eq_true, Bool.and_eq_true, Bool.and_eq_true, Bool.and_eq_true] at hb
        refine la_bt hb.1.1.1.1 ⟨⟨⟨la_t_ok hb.1.1.1.2, la_t_ok hb.1.1.2, la_o_ok hb.1.2, la_o_ok hb.2⟩, h1.1⟩, hK _ _ _ _ (la_cpy hm (la_t_ok hb.1.1.2)) h1.2⟩
      · exact (h1 : False).elim
    | a + 1, h =>
      refine la_pn (fun as s h => ?_) b st [] h
      obtain ⟨hb, h⟩ := cw_bif_inv h
      exact la_bt hb (hcall h)
  | pop =>
    refine la_fall hm hK hC ?_ h
    rcases st with _ | ⟨v, s⟩
    · exact trivial
    · exact la_bif (P := la_om m) trivial rfl
  | dup =>
    refine la_fall hm hK hC ?_ h
    rcases st with _ | ⟨v, s⟩
    · exact trivial
    · exact la_bif (P := la_om m) trivial rfl
  | dup2 =>
    refine la_fall hm hK hC ?_ h
    rcases st with _ | ⟨_ | z | z | z, _ | ⟨w, s⟩⟩ <;> first | exact trivial | exact rfl | exact la_bif (P := la_om m) trivial rfl
  | ifCond c off =>
    refine la_fall hm hK hC ?_ h
    exact la_p1 (P := la_om m) trivial (fun _ _ => by cases c <;> exact trivial)
  | if_icmp c off =>
    refine la_fall hm hK hC ?_ h
    exact la_p2 (P := la_om m) trivial (fun _ _ _ => by cases c <;> exact trivial)
  | lrem =>
    refine la_fall hm hK hC ?_ h
    exact la_l2 (P := la_om m) trivial (fun _ _ _ => rfl)
  | ireturn =>
    refine la_fall hm hK hC ?_ h
    rcases st with _ | ⟨_ | z | z | z, _ | ⟨w, s⟩⟩ <;> first | exact trivial | (match a with | 0 => exact trivial | a + 1 => exact trivial)
  | lreturn =>
    refine la_fall hm hK hC ?_ h
    rcases st with _ | ⟨_ | z | z | z, _ | ⟨w, s⟩⟩ <;> exact trivial
  | areturn =>
    refine la_fall hm hK hC ?_ h
    rcases st with _ | ⟨_ | z | z | z, _ | ⟨w, s⟩⟩ <;> exact trivial
  | return_ =>
    refine la_fall hm hK hC ?_ h
    rcases st with _ | ⟨z, s⟩ <;> exact trivial
  | _ =>
    refine la_fall hm hK hC ?_ h
    first
    | exact trivial
    | exact rfl
    | exact la_p1 (P := la_om m) trivial (fun _ _ => rfl)
    | exact la_p1 (P := la_om m) trivial (fun _ _ => trivial)
    | exact la_p2 (P := la_om m) trivial (fun _ _ _ => rfl)
    | exact la_l1 (P := la_om m) trivial (fun _ _ => rfl)
    | exact la_l2 (P := la_om m) trivial (fun _ _ _ => rfl)
    | exact la_li (P := la_om m) trivial (fun _ _ _ => rfl)
    | exact la_r1 (P := la_om m) trivial (fun _ _ => trivial)
    | exact la_gi (P := la_om m) trivial (fun _ => rfl)
    | exact la_gl (P := la_om m) trivial (fun _ => rfl)
    | exact la_gr (P := la_om m) trivial (fun _ => rfl)
    | exact la_p1 (P := la_om m) trivial (fun _ _ => la_st (P := la_om m) trivial (fun _ => rfl))
    | exact la_r1 (P := la_om m) trivial (fun _ _ => la_st (P := la_om m) trivial (fun _ => rfl))
    | exact la_l1 (P := la_om m) trivial (fun _ _ => la_st (P := la_om m) trivial (fun _ => la_st (P := la_om m) trivial (fun _ => la_st (P := la_om m) trivial (fun _ => rfl))))
end LAS
/-- so many steps at once, with the layout -/
noncomputable def la_U (d y : Nat) (cs : List Nat) (Q : Option cw_V → cw_M → Prop) (k : Nat) : Nat → List cw_V → List cw_V → cw_M → Prop :=
  Nat.rec (motive := fun _ => Nat → List cw_V → List cw_V → cw_M → Prop) (fun pc ls st m => cw_R d y pc ls st m Q) (fun _ ih pc ls st m => match cw_cd y pc with
    | none => False
    | some q => cw_G (fun pc ls st m => bif cs.elem pc then cw_R d y pc ls st m Q else ih pc ls st m) (la_C (cw_D d)) Q ls m (la_stp q ls st m)) k
theorem la_U_R {d y : Nat} {cs : List Nat} {Q : Option cw_V → cw_M → Prop} : ∀ (k : Nat) {pc : Nat} {ls st : List cw_V} {m : cw_M}, la_ok m → la_U d y cs Q k pc ls st m → cw_R d y pc ls st m Q := by
  intro k
  induction k with
  | zero => intro pc ls st m _ h; exact h
  | succ k ih =>
    intro pc ls st m hm h
    have h' : (match cw_cd y pc with | none => False | some q => cw_G (fun pc ls st m => bif cs.elem pc then cw_R d y pc ls st m Q else la_U d y cs Q k pc ls st m) (la_C (cw_D d)) Q ls m (la_stp q ls st m)) := h
    refine cw_R_step ?_
    unfold cw_S
    cases hq : cw_cd y pc with
    | none => rw [hq] at h'; exact h'
    | some q =>
      rw [hq] at h'
      refine la_step hm (fun pc ls st m hm h => ?_) (fun z as m R R' hR h => ?_) h'
      · cases hc : cs.elem pc with
        | true => rw [hc] at h; exact h
        | false => rw [hc] at h; exact ih hm h
      · match d, h with
        | d + 1, h => exact cw_C_mono (Nat.le_refl d) hR h
theorem la_go_C {d y : Nat} {as : List cw_V} {m : cw_M} {Q : Option cw_V → cw_M → Prop} (hm : la_ok m) (k : Nat) (cs : List Nat) (h : la_U d y cs Q k 0 (cw_en as (cw_ml y)) [] m) : cw_C d y as m Q := la_U_R k hm h
theorem la_go_R {d y pc : Nat} {ls st : List cw_V} {m : cw_M} {Q : Option cw_V → cw_M → Prop} (hm : la_ok m) (k : Nat) (cs : List Nat) (h : la_U d y cs Q k pc ls st m) : cw_R d y pc ls st m Q := la_U_R k hm h
