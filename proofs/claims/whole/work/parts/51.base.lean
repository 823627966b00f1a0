/-! Ground for the methods: switches, rows of the memory, bits, what stays constant. -/
theorem la_ts {d y pc len a b : Nat} {x yy dd lo hi u : Int} {os : Array Int} {ls s : List cw_V} {m : cw_M} {Q : Option cw_V → cw_M → Prop} (hq : cw_cd y pc = some (pc, len, .tableswitch dd lo hi os, a, b, x, yy)) (h : cw_R d y (cw_ts pc dd lo hi os u) ls s m Q) : cw_R d y pc ls (vi u :: s) m Q := by
  refine cw_R_step ?_
  unfold cw_S
  rw [hq]
  exact h
theorem la_lks {d y pc len a b : Nat} {x yy dd u : Int} {ps : Array (Int × Int)} {ls s : List cw_V} {m : cw_M} {Q : Option cw_V → cw_M → Prop} (hq : cw_cd y pc = some (pc, len, .lookupswitch dd ps, a, b, x, yy)) (h : cw_R d y (cw_lk pc dd ps.toList u) ls s m Q) : cw_R d y pc ls (vi u :: s) m Q := by
  refine cw_R_step ?_
  unfold cw_S
  rw [hq]
  exact h
theorem la_tsd {pc : Nat} {dd lo hi u : Int} {os : Array Int} (h : u < lo ∨ hi < u) : cw_ts pc dd lo hi os u = ((pc : Int) + dd).toNat := by
  unfold cw_ts
  by_cases h1 : u < lo
  · rw [if_pos h1]
  · rw [if_neg h1, if_pos (by omega)]
theorem la_lkd {pc : Nat} {dd u : Int} : ∀ {l : List (Int × Int)}, (∀ q ∈ l, u ≠ q.1) → cw_lk pc dd l u = ((pc : Int) + dd).toNat
  | [], _ => rfl
  | q :: t, h => by
    show (if u = q.1 then _ else cw_lk pc dd t u) = _
    rw [if_neg (h q List.mem_cons_self)]
    exact la_lkd (fun z hz => h z (List.mem_cons_of_mem _ hz))
theorem cw_put_at {m : cw_M} {c i v b j : Int} (h : b ≠ c) : cw_put m c i v b j = m b j := by rw [cw_put_ne h]
/-- a row of the memory put anew -/
def cw_row (m : cw_M) (c : Int) (f : Int → Int) : cw_M := fun b => if b = c then f else m b
theorem cw_row_eq {m : cw_M} {c : Int} {f : Int → Int} : cw_row m c f c = f := by unfold cw_row; rw [if_pos rfl]
theorem cw_row_ne {m : cw_M} {c b : Int} {f : Int → Int} (h : b ≠ c) : cw_row m c f b = m b := by unfold cw_row; rw [if_neg h]
theorem cw_row_row {m : cw_M} {c : Int} {f g : Int → Int} : cw_row (cw_row m c f) c g = cw_row m c g := by
  funext b; unfold cw_row; split
  · rfl
  · rfl
theorem cw_row_comm {m : cw_M} {c c' : Int} {f g : Int → Int} (h : c ≠ c') : cw_row (cw_row m c f) c' g = cw_row (cw_row m c' g) c f := by
  funext b; unfold cw_row
  by_cases h1 : b = c'
  · rw [if_pos h1, if_neg (by omega), if_pos h1]
  · by_cases h2 : b = c
    · rw [if_neg h1, if_pos h2, if_pos h2]
    · rw [if_neg h1, if_neg h2, if_neg h2, if_neg h1]
theorem cw_row_self {m : cw_M} {c : Int} : cw_row m c (m c) = m := by
  funext b; unfold cw_row; split
  · rename_i h; rw [h]
  · rfl
theorem cw_row_same {m : cw_M} {c : Int} {f : Int → Int} (h : f = m c) : cw_row m c f = m := by rw [h, cw_row_self]
/-- one place of a row -/
def cw_up (f : Int → Int) (i v : Int) : Int → Int := fun j => if j = i then v else f j
theorem cw_up_eq {f : Int → Int} {i v : Int} : cw_up f i v i = v := by unfold cw_up; rw [if_pos rfl]
theorem cw_up_ne {f : Int → Int} {i v j : Int} (h : j ≠ i) : cw_up f i v j = f j := by unfold cw_up; rw [if_neg h]
theorem cw_put_row {m : cw_M} {c i v : Int} : cw_put m c i v = cw_row m c (cw_up (m c) i v) := by
  funext b j; unfold cw_put cw_row cw_up
  by_cases h : b = c
  · rw [if_pos h]
    by_cases h2 : j = i
    · rw [if_pos ⟨h, h2⟩, if_pos h2]
    · rw [if_neg (fun q => h2 q.2), if_neg h2, h]
  · rw [if_neg h, if_neg (fun q => h q.1)]
theorem cw_row_put {m : cw_M} {c i v : Int} {f : Int → Int} : cw_put (cw_row m c f) c i v = cw_row m c (cw_up f i v) := by
  rw [cw_put_row, cw_row_row, cw_row_eq]
theorem cw_put_rowc {m : cw_M} {c c' i v : Int} {f : Int → Int} (h : c ≠ c') : cw_put (cw_row m c f) c' i v = cw_row (cw_put m c' i v) c f := by
  rw [cw_put_row, cw_row_ne (Ne.symm h), cw_row_comm h, ← cw_put_row]
theorem cw_put_put {m : cw_M} {c i v w : Int} : cw_put (cw_put m c i v) c i w = cw_put m c i w := by
  funext b j; unfold cw_put; split
  · rfl
  · rfl
theorem cw_put_comm {m : cw_M} {c c' i i' v w : Int} (h : c ≠ c' ∨ i ≠ i') : cw_put (cw_put m c i v) c' i' w = cw_put (cw_put m c' i' w) c i v := by
  funext b j; unfold cw_put
  by_cases h1 : b = c' ∧ j = i'
  · rw [if_pos h1, if_neg (by omega), if_pos h1]
  · rw [if_neg h1]
    by_cases h2 : b = c ∧ j = i
    · rw [if_pos h2, if_pos h2]
    · rw [if_neg h2, if_neg h2, if_neg h1]
theorem cw_put_self {m : cw_M} {c i v : Int} (h : v = m c i) : cw_put m c i v = m := by
  funext b j; unfold cw_put; split
  · rename_i q; rw [q.1, q.2, h]
  · rfl
theorem cw_cpy_row {m : cw_M} {s sp d dp n : Int} : cw_cpy m s sp d dp n = cw_row m d (fun j => if dp ≤ j ∧ j < dp + n then m s (sp + (j - dp)) else m d j) := by
  funext b j; unfold cw_cpy cw_row
  by_cases h : b = d
  · rw [if_pos h]
    by_cases h2 : dp ≤ j ∧ j < dp + n
    · rw [if_pos ⟨h, h2⟩, if_pos h2]
    · rw [if_neg (fun q => h2 q.2), if_neg h2, h]
  · rw [if_neg h, if_neg (fun q => h q.1)]
theorem la_row {m : cw_M} {c : Int} {f : Int → Int} (hm : la_ok m) (h0 : 33554432 ≤ c) (h : 12 ≤ cw_tg c) : la_ok (cw_row m c f) := by
  refine ⟨by rw [cw_row_ne (by omega)]; exact hm.1, fun e he => ?_⟩
  obtain ⟨-, h2, -, -⟩ := la_lok e he
  rw [cw_row_ne (fun q => by rw [q] at h2; omega)]
  exact hm.2 e he
theorem la_go_R0 {d y pc : Nat} {ls st : List cw_V} {m m' : cw_M} {Q : Option cw_V → cw_M → Prop} (e : m = m') (h : cw_R d y pc ls st m' Q) : cw_R d y pc ls st m Q := by rw [e]; exact h
theorem la_go_C0 {d y : Nat} {as : List cw_V} {m m' : cw_M} {Q : Option cw_V → cw_M → Prop} (e : m = m') (h : cw_C d y as m' Q) : cw_C d y as m Q := by rw [e]; exact h
/-! Bits of what is below 64. -/
def b_t (L p : Int) : Int := L / 2 ^ p.toNat % 2
theorem b_lt {L : Int} (h : 0 ≤ L ∧ L < 64) : ∃ k : Fin 64, L = (k.val : Int) := ⟨⟨L.toNat, by omega⟩, by show L = (L.toNat : Int); omega⟩
theorem b_l6 {p : Int} (h : 0 ≤ p ∧ p < 6) : ∃ k : Fin 6, p = (k.val : Int) := ⟨⟨p.toNat, by omega⟩, by show p = (p.toNat : Int); omega⟩
theorem b_bit {L p : Int} (hL : 0 ≤ L ∧ L < 64) (hp : 0 ≤ p ∧ p < 6) : cw_iand (cw_ishr L p) 1 = b_t L p := by
  obtain ⟨k, rfl⟩ := b_lt hL
  obtain ⟨q, rfl⟩ := b_l6 hp
  revert k q
  decide +kernel
theorem b_01 {L p : Int} : b_t L p = 0 ∨ b_t L p = 1 := by unfold b_t; omega
theorem b_set {L p : Int} (hL : 0 ≤ L ∧ L < 64) (hp : 0 ≤ p ∧ p < 6) : (0 ≤ cw_ior L (cw_ishl 1 p) ∧ cw_ior L (cw_ishl 1 p) < 64) ∧ ∀ q, 0 ≤ q → q < 6 → b_t (cw_ior L (cw_ishl 1 p)) q = if q = p then 1 else b_t L q := by
  obtain ⟨k, rfl⟩ := b_lt hL
  obtain ⟨p, rfl⟩ := b_l6 hp
  have key : ∀ (k : Fin 64) (p : Fin 6), (0 ≤ cw_ior k.val (cw_ishl 1 p.val) ∧ cw_ior k.val (cw_ishl 1 p.val) < 64) ∧ ∀ q : Fin 6, b_t (cw_ior k.val (cw_ishl 1 p.val)) q.val = if (q.val : Int) = p.val then 1 else b_t k.val q.val := by decide +kernel
  refine ⟨(key k p).1, fun q h0 h6 => ?_⟩
  obtain ⟨q, rfl⟩ := b_l6 ⟨h0, h6⟩
  exact (key k p).2 q
theorem b_clr {L p : Int} (hL : 0 ≤ L ∧ L < 64) (hp : 0 ≤ p ∧ p < 6) : (0 ≤ cw_iand L (cw_ixor (cw_ishl 1 p) (-1)) ∧ cw_iand L (cw_ixor (cw_ishl 1 p) (-1)) < 64) ∧ ∀ q, 0 ≤ q → q < 6 → b_t (cw_iand L (cw_ixor (cw_ishl 1 p) (-1))) q = if q = p then 0 else b_t L q := by
  obtain ⟨k, rfl⟩ := b_lt hL
  obtain ⟨p, rfl⟩ := b_l6 hp
  have key : ∀ (k : Fin 64) (p : Fin 6), (0 ≤ cw_iand k.val (cw_ixor (cw_ishl 1 p.val) (-1)) ∧ cw_iand k.val (cw_ixor (cw_ishl 1 p.val) (-1)) < 64) ∧ ∀ q : Fin 6, b_t (cw_iand k.val (cw_ixor (cw_ishl 1 p.val) (-1))) q.val = if (q.val : Int) = p.val then 0 else b_t k.val q.val := by decide +kernel
  refine ⟨(key k p).1, fun q h0 h6 => ?_⟩
  obtain ⟨q, rfl⟩ := b_l6 ⟨h0, h6⟩
  exact (key k p).2 q
theorem b_dif {L M : Int} (hL : 0 ≤ L ∧ L < 64) (hM : 0 ≤ M ∧ M < 64) : (0 ≤ cw_iand L (cw_ixor M (-1)) ∧ cw_iand L (cw_ixor M (-1)) < 64) ∧ ∀ q, 0 ≤ q → q < 6 → b_t (cw_iand L (cw_ixor M (-1))) q = b_t L q * (1 - b_t M q) := by
  obtain ⟨k, rfl⟩ := b_lt hL
  obtain ⟨p, rfl⟩ := b_lt hM
  have key : ∀ (k p : Fin 64), (0 ≤ cw_iand k.val (cw_ixor p.val (-1)) ∧ cw_iand k.val (cw_ixor p.val (-1)) < 64) ∧ ∀ q : Fin 6, b_t (cw_iand k.val (cw_ixor p.val (-1))) q.val = b_t k.val q.val * (1 - b_t p.val q.val) := by decide +kernel
  refine ⟨(key k p).1, fun q h0 h6 => ?_⟩
  obtain ⟨q, rfl⟩ := b_l6 ⟨h0, h6⟩
  exact (key k p).2 q
theorem b_or0 {L : Int} (hL : 0 ≤ L ∧ L < 64) : cw_ior L 0 = L := by
  obtain ⟨k, rfl⟩ := b_lt hL
  revert k
  decide +kernel
theorem b_ext {L M : Int} (hL : 0 ≤ L ∧ L < 64) (hM : 0 ≤ M ∧ M < 64) (h : ∀ q, 0 ≤ q → q < 6 → b_t L q = b_t M q) : L = M := by
  have h0 := h 0 (by decide) (by decide)
  have h1 := h 1 (by decide) (by decide)
  have h2 := h 2 (by decide) (by decide)
  have h3 := h 3 (by decide) (by decide)
  have h4 := h 4 (by decide) (by decide)
  have h5 := h 5 (by decide) (by decide)
  have e0 : b_t L 0 = L / 1 % 2 := rfl
  have e1 : b_t L 1 = L / 2 % 2 := rfl
  have e2 : b_t L 2 = L / 4 % 2 := rfl
  have e3 : b_t L 3 = L / 8 % 2 := rfl
  have e4 : b_t L 4 = L / 16 % 2 := rfl
  have e5 : b_t L 5 = L / 32 % 2 := rfl
  have g0 : b_t M 0 = M / 1 % 2 := rfl
  have g1 : b_t M 1 = M / 2 % 2 := rfl
  have g2 : b_t M 2 = M / 4 % 2 := rfl
  have g3 : b_t M 3 = M / 8 % 2 := rfl
  have g4 : b_t M 4 = M / 16 % 2 := rfl
  have g5 : b_t M 5 = M / 32 % 2 := rfl
  omega
theorem b_cnt {L : Int} (hL : 0 ≤ L ∧ L < 64) : b_t L 0 + b_t L 1 + b_t L 2 + b_t L 3 + b_t L 4 + b_t L 5 ≤ 6 ∧ 0 ≤ b_t L 0 + b_t L 1 + b_t L 2 + b_t L 3 + b_t L 4 + b_t L 5 := by
  have := b_01 (L := L) (p := 0); have := b_01 (L := L) (p := 1); have := b_01 (L := L) (p := 2); have := b_01 (L := L) (p := 3); have := b_01 (L := L) (p := 4); have := b_01 (L := L) (p := 5)
  omega
/-- what stays as it was laid: the constant cells, and the two rows of the reference -/
def la_k (m : cw_M) : Prop := (∀ c, 0 < c → c < 33554432 → cw_ce c ≠ 1 → m c = cw_k0 c) ∧ (∀ j, 0 ≤ j → j < 7 → m m_catalan_ j = cw_k0 cw_TREES j)
theorem cw_put_r {m : cw_M} {c i v : Int} : cw_put m c i v c = cw_up (m c) i v := by rw [cw_put_row, cw_row_eq]
theorem cw_x1 {M m : cw_M} {c1 : Int} {f1 : Int → Int} (h1 : M c1 = f1) (h : ∀ b, b ≠ c1 → M b = m b) : M = cw_row m c1 f1 := by
  funext b
  by_cases e1 : b = c1
  · rw [e1, cw_row_eq, h1]
  · rw [cw_row_ne e1, h b e1]
theorem cw_x2 {M m : cw_M} {c1 c2 : Int} {f1 f2 : Int → Int} (n : c1 ≠ c2) (h1 : M c1 = f1) (h2 : M c2 = f2) (h : ∀ b, b ≠ c1 → b ≠ c2 → M b = m b) : M = cw_row (cw_row m c1 f1) c2 f2 :=
  cw_x1 h2 (fun b e => by
    by_cases e1 : b = c1
    · rw [e1, cw_row_eq, h1]
    · rw [cw_row_ne e1, h b e1 e])
theorem cw_x3 {M m : cw_M} {c1 c2 c3 : Int} {f1 f2 f3 : Int → Int} (n : c1 ≠ c2) (n2 : c1 ≠ c3) (n3 : c2 ≠ c3) (h1 : M c1 = f1) (h2 : M c2 = f2) (h3 : M c3 = f3) (h : ∀ b, b ≠ c1 → b ≠ c2 → b ≠ c3 → M b = m b) : M = cw_row (cw_row (cw_row m c1 f1) c2 f2) c3 f3 :=
  cw_x1 h3 (fun b e => by
    by_cases e2 : b = c2
    · rw [e2, cw_row_eq, h2]
    · rw [cw_row_ne e2]
      by_cases e1 : b = c1
      · rw [e1, cw_row_eq, h1]
      · rw [cw_row_ne e1, h b e1 e2 e])
