/-! The abstract machine and the JVM: how a heap, the locals, the stack are held together. -/
abbrev cw_E : Type := va_G × (Nat → ClassId) × Nat × (Nat → Nat) × Value
/-- the kinds and the types of the arrays, by their tags from 40 on -/
def cw_ak (t : Nat) : Nat := match t with
  | 0 => 0
  | 1 => 1
  | 2 => 0
  | 3 => 0
  | _ => 2
def cw_aty (t : Nat) : FieldType := match t with
  | 0 => .int
  | 1 => .long
  | 2 => .boolean
  | 3 => .byte
  | 4 => .object "CommaWill$Text"
  | _ => .object "CommaWill$Will"
def cw_tys (dA : Nat → ClassId) : List (ClassId × FieldType) := [(dA 0, .int), (dA 1, .long), (dA 2, .boolean), (dA 3, .byte), (dA 4, .object "CommaWill$Text"), (dA 5, .object "CommaWill$Will")]
def cw_scr (L : Nat) : Int := (16384 + (L : Int)) * 64 + 40
def cw_bl (i : Nat) : Nat := match i with
  | 0 => 3
  | 1 => 2
  | 2 => 2
  | 3 => 2
  | 4 => 2
  | 5 => 5
  | 6 => 3
  | 7 => 17
  | 8 => 42
  | 9 => 18
  | _ => 42
def cw_bc (i : Nat) : Int := (((15 + i : Nat) : Int) * 16384 + (cw_bl i : Int)) * 64 + 43
abbrev cw_TREES : Int := 2097640
abbrev cw_TERM : Int := 3146024
/-- the constant cells that are arrays: code, type, length -/
def cw_ca (L : Nat) : List (Int × FieldType × Nat) := (cw_scr L, .int, L) :: (cw_TREES, .int, 7) :: (cw_TERM, .int, 4) :: (List.range 11).map (fun i => (cw_bc i, .byte, cw_bl i))
def cw_ad (E : cw_E) (c : Int) : Nat := if c < 33554432 then E.2.2.2.1 (cw_ce c).toNat else E.2.2.1 + (cw_ce c - 32).toNat
def cw_rv (E : cw_E) (c : Int) : Value := if c = 0 then .null else .ref (cw_ad E c)
def cw_tv (E : cw_E) (v : cw_V) : Value := match v with
  | some (.inl x) => .int (Int32.ofInt x)
  | some (.inr (.inl x)) => .long (Int64.ofInt x)
  | some (.inr (.inr c)) => cw_rv E c
  | none => E.2.2.2.2
/-- a cell of our own that was made; any reference that may be held -/
def cw_vd (m : cw_M) (c : Int) : Prop := 33554432 ≤ c ∧ cw_ce c < m (-1) 0 ∧ m (-2) (cw_ce c) = c
def cw_kr (L : Nat) (m : cw_M) (c : Int) : Prop := c = 0 ∨ cw_vd m c ∨ (∃ i : Nat, i < 11 ∧ c = cw_sc i) ∨ ∃ q ∈ cw_ca L, c = q.1
def cw_kk (L : Nat) (m : cw_M) (v : cw_V) : Prop := match v with
  | some (.inl x) => cw_r x
  | some (.inr (.inl x)) => cw_rl x
  | some (.inr (.inr c)) => cw_kr L m c
  | none => True
def cw_fld (t k : Nat) : Nat := (cw_fk (cw_ty t k)).1
def cw_cel (E : cw_E) (m : cw_M) (H : Heap) (c : Int) (q : Nat) : Prop :=
  (∃ t : Nat, t < 11 ∧ cw_tg c = (t : Int) + 1 ∧ t_OB q (E.1.1 t) (cw_N t) (E.1.2 t) H (fun k => cw_tv E (cw_kv (cw_fld t k) (m c k)))) ∨
  (∃ t : Nat, t < 6 ∧ cw_tg c = (t : Int) + 40 ∧ H[q]? = some (arrV (E.2.1 t) (cw_ln c).toNat (fun j => cw_tv E (cw_kv (cw_ak t) (m c j)))))
def cw_con (L : Nat) (m : cw_M) (c : Int) : Prop :=
  (∀ t : Nat, t < 11 → cw_tg c = (t : Int) + 1 → ∀ k : Nat, k < cw_N t → cw_kk L m (cw_kv (cw_fld t k) (m c k))) ∧
  (∀ t : Nat, t < 6 → cw_tg c = (t : Int) + 40 → ∀ j : Nat, j < (cw_ln c).toNat → cw_kk L m (cw_kv (cw_ak t) (m c j)))
def cw_rep (E : cw_E) (L : Nat) (m0 m : cw_M) (H : Heap) : Prop :=
  (32 ≤ m (-1) 0 ∧ H.size = E.2.2.1 + (m (-1) 0 - 32).toNat) ∧ (∀ c, cw_vd m c → cw_cel E m H c (cw_ad E c) ∧ cw_con L m c) ∧ ∀ c j : Int, 0 < c → c < 33554432 → m c j = m0 c j
/-- which cells may change -/
def cw_AA (E : cw_E) : Nat → Prop := fun q => E.2.2.1 ≤ q
/-- the nest's links -/
def cw_NW : List Cond := cw_LG.map (fun e => Cond.fieldLinkNest (cw_cn e.2.1) e.2.2.1 (cw_TT e.2.2.2.1 e.2.2.2.2).1 (cw_TT e.2.2.2.1 e.2.2.2.2).2.1 (cw_TT e.2.2.2.1 e.2.2.2.2).2.2.1 "CommaWill") ++ (cw_LN.map (fun e => Cond.methodLinkNest (cw_cn e.2.1) e.2.2.1 (cw_nm e.2.2.2) "CommaWill") ++ [Cond.fieldLinkNest "CommaWill$Forest" 32 "CommaWill" "TREES" "[I" "CommaWill"])
/-- what the tables say, all along -/
def cw_KV (E : cw_E) (U : State) : Prop :=
  va_K E.1 cw_cls (cw_tys E.2.1) U ∧ (∀ w ∈ cw_NW, va_Nw w U) ∧ va_AO "CommaWill$Text" U ∧ va_AO "CommaWill$Will" U ∧ ∀ e ∈ cw_LS0, vk_R (cw_cn e.2.1) e.2.2.1 (cw_sx e.2.2.2) (cw_ad E (cw_sc e.2.2.2)) U
/-- what the constants hold -/
def cw_KH (E : cw_E) (L : Nat) (m0 : cw_M) (U : State) (H : Heap) : Prop :=
  va_Z "CommaWill" "TREES" "[I" (.ref (cw_ad E cw_TREES)) (cw_AA E) U H ∧ va_Z "CommaWill" "TERM_MOST" "[I" (.ref (cw_ad E cw_TERM)) (cw_AA E) U H ∧ va_Z "java/lang/String" "COMPACT_STRINGS" "Z" (.int 1) (cw_AA E) U H ∧ va_Z "jdk/internal/util/Preconditions" "SIOOBE_FORMATTER" "Ljava/util/function/BiFunction;" E.2.2.2.2 (cw_AA E) U H ∧
  (∀ q ∈ cw_ca L, va_T q.2.1 (cw_ad E q.1) q.2.2 (fun j => cw_tv E (vi (m0 q.1 j))) (cw_AA E) U H) ∧
  ∀ i : Nat, i < 11 → va_O "java/lang/String" (cw_ad E (cw_sc i)) (cw_AA E) U H ∧ va_OF "java/lang/String" "value" "[B" (.ref (cw_ad E (cw_bc i))) (cw_ad E (cw_sc i)) (cw_AA E) U H ∧ va_OF "java/lang/String" "coder" "B" (.int 0) (cw_ad E (cw_sc i)) (cw_AA E) U H
/-- what the first memory holds of the constants -/
def cw_m0 (E : cw_E) (L : Nat) (m0 : cw_M) : Prop := (∀ c j : Int, cw_r (m0 c j)) ∧ (∀ i : Nat, i < 11 → m0 (cw_sc i) 0 = cw_bc i ∧ m0 (cw_sc i) 1 = 0) ∧ (E.2.2.2.2 = .null ∨ ∃ a, E.2.2.2.2 = .ref a) ∧ L ≤ 3072
/-- the locals -/
def cw_lr (E : cw_E) (nL : Nat) (ls : List cw_V) (LS : Array Slot) : Prop := (LS.size = nL ∧ lv_wf LS) ∧ ls.length ≤ nL ∧ ∀ (i : Nat) (v : Int ⊕ (Int ⊕ Int)), cw_lg ls i = some v → LS[i]? = some (.val (cw_tv E (some v)))
def cw_J (E : cw_E) (L : Nat) (m0 : cw_M) (s : State) (nL : Nat) (mE : cw_M) (ls st : List cw_V) (m : cw_M) (H : Heap) (locs : List Loc) (LS : Array Slot) : Prop :=
  cw_rep E L m0 m H ∧ va_S (cw_AA E) s.heap H locs ∧ cw_lr E nL ls LS ∧ (∀ v ∈ st, cw_kk L m v) ∧ (∀ (i : Nat) (v : Int ⊕ (Int ⊕ Int)), cw_lg ls i = some v → cw_kk L m (some v)) ∧ mE (-1) 0 ≤ m (-1) 0 ∧ mE (-1) 1 ≤ m (-1) 1
/-! what a step's form says of the stack -/
section CWI
variable {K : Nat → List cw_V → List cw_V → cw_M → Prop} {C : Nat → List cw_V → cw_M → (Option cw_V → cw_M → Prop) → Prop} {Q : Option cw_V → cw_M → Prop} {ls st : List cw_V} {m : cw_M}
theorem cw_p1_inv {f : Int → List cw_V → Option cw_O} (h : cw_G K C Q ls m (cw_p1 st f)) : ∃ x s, st = vi x :: s ∧ cw_G K C Q ls m (f x s) := by
  rcases st with _ | ⟨_ | x | x | x, s⟩
  · exact (h : False).elim
  · exact (h : False).elim
  · exact ⟨x, s, rfl, h⟩
  · exact (h : False).elim
  · exact (h : False).elim
theorem cw_l1_inv {f : Int → List cw_V → Option cw_O} (h : cw_G K C Q ls m (cw_l1 st f)) : ∃ x s, st = vl x :: s ∧ cw_G K C Q ls m (f x s) := by
  rcases st with _ | ⟨_ | x | x | x, s⟩
  · exact (h : False).elim
  · exact (h : False).elim
  · exact (h : False).elim
  · exact ⟨x, s, rfl, h⟩
  · exact (h : False).elim
theorem cw_r1_inv {f : Int → List cw_V → Option cw_O} (h : cw_G K C Q ls m (cw_r1 st f)) : ∃ x s, st = vr x :: s ∧ cw_G K C Q ls m (f x s) := by
  rcases st with _ | ⟨_ | x | x | x, s⟩
  · exact (h : False).elim
  · exact (h : False).elim
  · exact (h : False).elim
  · exact (h : False).elim
  · exact ⟨x, s, rfl, h⟩
theorem cw_p2_inv {f : Int → Int → List cw_V → Option cw_O} (h : cw_G K C Q ls m (cw_p2 st f)) : ∃ x y s, st = vi y :: vi x :: s ∧ cw_G K C Q ls m (f x y s) := by
  rcases st with _ | ⟨_ | y | y | y, _ | ⟨_ | x | x | x, s⟩⟩ <;> first | exact (h : False).elim | exact ⟨x, y, s, rfl, h⟩
theorem cw_l2_inv {f : Int → Int → List cw_V → Option cw_O} (h : cw_G K C Q ls m (cw_l2 st f)) : ∃ x y s, st = vl y :: vl x :: s ∧ cw_G K C Q ls m (f x y s) := by
  rcases st with _ | ⟨_ | y | y | y, _ | ⟨_ | x | x | x, s⟩⟩ <;> first | exact (h : False).elim | exact ⟨x, y, s, rfl, h⟩
theorem cw_li_inv {f : Int → Int → List cw_V → Option cw_O} (h : cw_G K C Q ls m (cw_li st f)) : ∃ x y s, st = vi y :: vl x :: s ∧ cw_G K C Q ls m (f x y s) := by
  rcases st with _ | ⟨_ | y | y | y, _ | ⟨_ | x | x | x, s⟩⟩ <;> first | exact (h : False).elim | exact ⟨x, y, s, rfl, h⟩
theorem cw_ri_inv {f : Int → Int → List cw_V → Option cw_O} (h : cw_G K C Q ls m (cw_ri st f)) : ∃ c i s, st = vi i :: vr c :: s ∧ cw_G K C Q ls m (f c i s) := by
  rcases st with _ | ⟨_ | y | y | y, _ | ⟨_ | x | x | x, s⟩⟩ <;> first | exact (h : False).elim | exact ⟨x, y, s, rfl, h⟩
theorem cw_rii_inv {f : Int → Int → Int → List cw_V → Option cw_O} (h : cw_G K C Q ls m (cw_rii st f)) : ∃ c i v s, st = vi v :: vi i :: vr c :: s ∧ cw_G K C Q ls m (f c i v s) := by
  rcases st with _ | ⟨_ | z | z | z, _ | ⟨_ | y | y | y, _ | ⟨_ | x | x | x, s⟩⟩⟩ <;> first | exact (h : False).elim | exact ⟨x, y, z, s, rfl, h⟩
theorem cw_ril_inv {f : Int → Int → Int → List cw_V → Option cw_O} (h : cw_G K C Q ls m (cw_ril st f)) : ∃ c i v s, st = vl v :: vi i :: vr c :: s ∧ cw_G K C Q ls m (f c i v s) := by
  rcases st with _ | ⟨_ | z | z | z, _ | ⟨_ | y | y | y, _ | ⟨_ | x | x | x, s⟩⟩⟩ <;> first | exact (h : False).elim | exact ⟨x, y, z, s, rfl, h⟩
theorem cw_rir_inv {f : Int → Int → Int → List cw_V → Option cw_O} (h : cw_G K C Q ls m (cw_rir st f)) : ∃ c i v s, st = vr v :: vi i :: vr c :: s ∧ cw_G K C Q ls m (f c i v s) := by
  rcases st with _ | ⟨_ | z | z | z, _ | ⟨_ | y | y | y, _ | ⟨_ | x | x | x, s⟩⟩⟩ <;> first | exact (h : False).elim | exact ⟨x, y, z, s, rfl, h⟩
theorem cw_gi_inv {n : Nat} {f : Int → Option cw_O} (h : cw_G K C Q ls m (cw_gi ls n f)) : ∃ x, cw_lg ls n = vi x ∧ cw_G K C Q ls m (f x) := by
  unfold cw_gi at h
  split at h
  · exact ⟨_, by assumption, h⟩
  · exact (h : False).elim
theorem cw_gl_inv {n : Nat} {f : Int → Option cw_O} (h : cw_G K C Q ls m (cw_gl ls n f)) : ∃ x, cw_lg ls n = vl x ∧ cw_G K C Q ls m (f x) := by
  unfold cw_gl at h
  split at h
  · exact ⟨_, by assumption, h⟩
  · exact (h : False).elim
theorem cw_gr_inv {n : Nat} {f : Int → Option cw_O} (h : cw_G K C Q ls m (cw_gr ls n f)) : ∃ x, cw_lg ls n = vr x ∧ cw_G K C Q ls m (f x) := by
  unfold cw_gr at h
  split at h
  · exact ⟨_, by assumption, h⟩
  · exact (h : False).elim
/-- a store: which locals then are known -/
theorem cw_st_inv : ∀ {l : List cw_V} {n : Nat} {v : cw_V} {k : List cw_V → Option cw_O}, cw_G K C Q ls m (cw_st l n v k) → ∃ l', cw_G K C Q ls m (k l') ∧ n < l.length ∧ l'.length = l.length ∧ cw_lg l' n = v ∧ ∀ j : Nat, j ≠ n → cw_lg l' j = cw_lg l j ∧ (j + 1 = n → ∀ z, cw_lg l j ≠ vl z) ∨ j ≠ n ∧ cw_lg l' j = none
  | [], _, _, _, h => (h : False).elim
  | a :: t, 0, v, k, h => ⟨v :: t, h, by simp, by simp, rfl, fun j hj => by
      cases j with
      | zero => exact absurd rfl hj
      | succ j => exact Or.inl ⟨rfl, fun q => by omega⟩⟩
  | a :: t, 1, v, k, h => by
    have h' : cw_G K C Q ls m (cw_dl a fun a' => cw_st t 0 v fun t' => k (a' :: t')) := h
    rcases t with _ | ⟨b, t⟩
    · rcases a with _ | x | x | x <;> exact (h' : False).elim
    · rcases a with _ | x | x | x
      · exact ⟨none :: v :: t, h', by simp, by simp, rfl, fun j hj => by
          match j, hj with
          | 0, _ => exact Or.inr ⟨by omega, rfl⟩
          | j + 2, _ => exact Or.inl ⟨rfl, fun q => by omega⟩⟩
      · exact ⟨vi x :: v :: t, h', by simp, by simp, rfl, fun j hj => by
          match j, hj with
          | 0, _ => exact Or.inl ⟨rfl, fun _ z q => by cases q⟩
          | j + 2, _ => exact Or.inl ⟨rfl, fun q => by omega⟩⟩
      · exact ⟨none :: v :: t, h', by simp, by simp, rfl, fun j hj => by
          match j, hj with
          | 0, _ => exact Or.inr ⟨by omega, rfl⟩
          | j + 2, _ => exact Or.inl ⟨rfl, fun q => by omega⟩⟩
      · exact ⟨vr x :: v :: t, h', by simp, by simp, rfl, fun j hj => by
          match j, hj with
          | 0, _ => exact Or.inl ⟨rfl, fun _ z q => by cases q⟩
          | j + 2, _ => exact Or.inl ⟨rfl, fun q => by omega⟩⟩
  | a :: t, n + 2, v, k, h => by
    have h' : cw_G K C Q ls m (cw_st t (n + 1) v fun t' => k (a :: t')) := h
    obtain ⟨l', h1, h2, h3, h4, h5⟩ := cw_st_inv h'
    refine ⟨a :: l', h1, by simp; omega, by simpa using h3, h4, fun j hj => ?_⟩
    cases j with
    | zero => exact Or.inl ⟨rfl, fun q => by omega⟩
    | succ j =>
      rcases h5 j (by omega) with ⟨q1, q2⟩ | ⟨q1, q2⟩
      · exact Or.inl ⟨q1, fun q => q2 (by omega)⟩
      · exact Or.inr ⟨by omega, q2⟩
end CWI
