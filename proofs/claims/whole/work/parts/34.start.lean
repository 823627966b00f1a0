/-! The start of the law: the first memory, and what the Statement gives of it. (R_law .. lw_At: the skeleton's rows.) -/
/-! THE CLAIM OUT OF ONE WALK OF THE LAW'S BODY. Your part is whole_start (and what it stands on); all else here is the same for every law, but numbers. -/
def R_law : String := "CommaWillLaw"
def lw_P (b : Addr) (xs : List Int32) (args : Array Value) (s : State) : Prop := args = #[.ref b] ∧ s.IntsAt b xs ∧ xs.length ≤ 3072 ∧ (Jvm.Cond.and given_1 narrow_1).before args s = true
def lw_Q (_ : Array Value) (s : State) (o : Outcome) (t : State) : Prop := o = .returned (some (.int 1)) ∧ Framed s o t [] 600000 7302250
def lw_Z (below : List Frame) (a : Array Value) (s : State) : State → Prop := fun t => ∃ o, t.status = .running ∧ Ended t below o ∧ lw_Q a s o t
/-- the law's own end, with 1 on the stack, nothing written that was there before, its room as the claim has it -/
theorem lw_ret {p : Program} {l : Launch} {e : Env} {s : State} {m : MethodId} {below : List Frame} {meth : Method} {c : Code} {b : Nat} (hx : p.tables.exec = Jvm.exec) (hb : c.code = code) (hr : meth.sig.returnType = ret) (hlocks : meth.locks = false) {pc : Nat} {H : Heap} {ls : Array Slot} (hdg : decode code pc = .ok (.ireturn, 1)) : W p l e room_1 s m #[Value.ref b] below meth c H [] 600000 7302250 (lw_Z below #[Value.ref b] s) (F0 m pc ls [.int 1]) := by
  intro T hT X
  obtain ⟨fs, hret, hrun, hended, hW, hframe⟩ := X.leave (v := some (.int 1)) (hlocks := hlocks) (fun h => by rw [hr] at h; cases h)
  have hmeth' : T.vm.method? m = some meth := X.method'
  refine ⟨T.setFrames fs, ?_, .returned (some (.int 1)), hrun, hended, rfl, ⟨_, rfl⟩, hW, hframe⟩
  jvm_step X.here [X.here.top, hx, hb, hdg, hmeth', hr, ret, narrow_b1]
  (try refine ⟨rfl, ?_⟩); (try refine ⟨rfl, ?_⟩)
  first | (intro acts; rw [hret _ acts rfl rfl rfl]) | rw [hret _ _ rfl rfl rfl]
  exact Steps.refl _
/-- what holds at the law's entry: the machine, the code, the tables' words (any of lw_tbl by 'hts w (by decide +kernel)'), the script of L ints xs at the cell b, what the Statement gives of the start (any of its parts by flat_of_before) -/
def lw_At (p : Program) (s : State) (m : MethodId) (meth : Method) (c : Code) (b L : Nat) (xs : Nat → Int32) : Prop :=
  p.tables.exec = Jvm.exec ∧ c.code = code ∧ meth.sig.returnType = ret ∧ c.maxLocals = 4 ∧ s.vm.findClass R_law = some m.cls ∧ (∀ w ∈ lw_tbl, w.before #[Value.ref b] s = true) ∧ va_X b L xs s s.heap ∧ b < s.heap.size ∧ meth.locks = false ∧ (Jvm.Cond.and given_1 narrow_1).before #[Value.ref b] s = true
def cw_si (i : Nat) : Nat := match i with
  | 0 => 124
  | 1 => 126
  | 2 => 120
  | 3 => 94
  | 4 => 96
  | 5 => 101
  | 6 => 135
  | 7 => 72
  | 8 => 146
  | 9 => 92
  | _ => 148
def cw_bys (i : Nat) : List Int := match i with
  | 0 => [97, 110, 100]
  | 1 => [111, 114]
  | 2 => [105, 102]
  | 3 => [97, 115]
  | 4 => [116, 111]
  | 5 => [116, 105, 109, 101, 115]
  | 6 => [110, 111, 116]
  | 7 => [115, 104, 97, 114, 101, 115, 32, 116, 97, 120, 101, 115, 32, 98, 97, 114, 115]
  | 8 => [106, 111, 105, 110, 32, 108, 101, 102, 116, 32, 114, 105, 103, 104, 116, 32, 119, 111, 114, 116, 104, 32, 104, 101, 105, 114, 32, 116, 105, 109, 101, 115, 32, 121, 101, 97, 114, 32, 109, 111, 111, 100]
  | 9 => [109, 97, 114, 107, 32, 116, 117, 114, 110, 32, 100, 105, 101, 32, 112, 97, 115, 115]
  | _ => [121, 101, 97, 114, 32, 100, 111, 110, 101, 32, 108, 97, 116, 101, 115, 116, 32, 114, 101, 97, 100, 105, 110, 103, 115, 32, 108, 105, 118, 105, 110, 103, 32, 109, 97, 114, 107, 32, 107, 105, 110, 100]
def cw_k0 (c j : Int) : Int :=
  if c = cw_TREES then (if j < 0 then 0 else [1, 1, 2, 5, 14, 42, 132].getD j.toNat 0)
  else if c = cw_TERM then (if j < 0 then 0 else [999, 9999, 9, 10].getD j.toNat 0)
  else if 4 ≤ cw_ce c ∧ cw_ce c < 15 ∧ c = cw_sc (cw_ce c - 4).toNat then (if j = 0 then cw_bc (cw_ce c - 4).toNat else 0)
  else if 15 ≤ cw_ce c ∧ cw_ce c < 26 ∧ c = cw_bc (cw_ce c - 15).toNat then (if j < 0 then 0 else (cw_bys (cw_ce c - 15).toNat).getD j.toNat 0)
  else if c = -1 ∧ j = 0 then 32 else 0
/-- the first memory: the script, the constants, 32 cells that are not ours -/
def cw_mi (L : Nat) (xs : Nat → Int32) : cw_M := fun c j => if c = cw_scr L then (if 0 ≤ j ∧ j < L then (xs j.toNat).toInt else 0) else cw_k0 c j
theorem cw_bys_len : ∀ i : Nat, i < 11 → (cw_bys i).length = cw_bl i := by decide
theorem cw_bys_r : ∀ i : Nat, i < 11 → ∀ z ∈ cw_bys i, 0 ≤ z ∧ z < 128 := by decide
theorem cw_getD_r {l : List Int} {n : Nat} {lo hi : Int} (h : ∀ z ∈ l, lo ≤ z ∧ z < hi) (h0 : lo ≤ 0 ∧ 0 < hi) : lo ≤ l.getD n 0 ∧ l.getD n 0 < hi := by
  by_cases hn : n < l.length
  · rw [List.getD_eq_getElem?_getD, List.getElem?_eq_getElem hn]; exact h _ (List.getElem_mem hn)
  · rw [List.getD_eq_getElem?_getD, List.getElem?_eq_none (by omega)]; exact h0
theorem cw_k0_r (c j : Int) : cw_r (cw_k0 c j) := by
  unfold cw_k0
  repeat' split
  · exact cw_rz
  · have := cw_getD_r (l := [1, 1, 2, 5, 14, 42, 132]) (n := j.toNat) (lo := 0) (hi := 200) (by decide) (by decide)
    exact ⟨by omega, by omega⟩
  · exact cw_rz
  · have := cw_getD_r (l := [999, 9999, 9, 10]) (n := j.toNat) (lo := 0) (hi := 10000) (by decide) (by decide)
    exact ⟨by omega, by omega⟩
  · rename_i h _
    have hb : cw_bl (cw_ce c - 4).toNat < 64 := by unfold cw_bl; split <;> omega
    unfold cw_bc cw_r
    omega
  · exact cw_rz
  · exact cw_rz
  · rename_i h _
    have := cw_getD_r (n := j.toNat) (cw_bys_r (cw_ce c - 15).toNat (by omega)) (by decide)
    exact ⟨by omega, by omega⟩
  · exact ⟨by decide, by decide⟩
  · exact cw_rz
theorem cw_mi_r (L : Nat) (xs : Nat → Int32) (c j : Int) : cw_r (cw_mi L xs c j) := by
  unfold cw_mi
  repeat' split
  · exact cw_ri32 _
  · exact cw_rz
  · exact cw_k0_r c j
theorem cw_mi_k {L : Nat} {xs : Nat → Int32} {c j : Int} (h : c ≠ cw_scr L) : cw_mi L xs c j = cw_k0 c j := by unfold cw_mi; rw [if_neg h]
theorem cw_scr_tg (L : Nat) : cw_tg (cw_scr L) = 40 := by unfold cw_tg cw_scr; omega
theorem cw_sc_ne {i : Nat} (hi : i < 11) (L : Nat) : cw_sc i ≠ cw_scr L ∧ cw_sc i ≠ cw_TREES ∧ cw_sc i ≠ cw_TERM ∧ cw_ce (cw_sc i) = 4 + i := by
  have h := cw_sc_tg i
  refine ⟨fun q => ?_, fun q => ?_, fun q => ?_, ?_⟩
  · rw [q, cw_scr_tg] at h; omega
  · rw [q] at h; revert h; decide
  · rw [q] at h; revert h; decide
  · unfold cw_ce cw_sc; omega
theorem cw_bc_tg {i : Nat} (hi : i < 11) : cw_tg (cw_bc i) = 43 ∧ cw_ce (cw_bc i) = 15 + i := by
  have hb : cw_bl i < 64 := by unfold cw_bl; split <;> omega
  unfold cw_tg cw_ce cw_bc
  omega
theorem cw_mi_s {L : Nat} {xs : Nat → Int32} {i : Nat} (hi : i < 11) : cw_mi L xs (cw_sc i) 0 = cw_bc i ∧ cw_mi L xs (cw_sc i) 1 = 0 := by
  obtain ⟨h1, h2, h3, h4⟩ := cw_sc_ne hi L
  have h5 : ((4 : Int) + (i : Int) - 4).toNat = i := by omega
  refine ⟨?_, ?_⟩
  · rw [cw_mi_k h1]
    unfold cw_k0
    rw [if_neg h2, if_neg h3, h4, h5, if_pos ⟨by omega, by omega, rfl⟩, if_pos rfl]
  · rw [cw_mi_k h1]
    unfold cw_k0
    rw [if_neg h2, if_neg h3, h4, h5, if_pos ⟨by omega, by omega, rfl⟩, if_neg (by decide)]
theorem cw_mi_b {L : Nat} {xs : Nat → Int32} {i j : Nat} (hi : i < 11) : cw_mi L xs (cw_bc i) j = (cw_bys i).getD j 0 := by
  obtain ⟨h1, h2⟩ := cw_bc_tg hi
  have n1 : cw_bc i ≠ cw_scr L := fun q => by rw [q, cw_scr_tg] at h1; omega
  have n2 : cw_bc i ≠ cw_TREES := fun q => by rw [q] at h1; revert h1; decide
  have n3 : cw_bc i ≠ cw_TERM := fun q => by rw [q] at h1; revert h1; decide
  rw [cw_mi_k n1]
  unfold cw_k0
  rw [if_neg n2, if_neg n3, if_neg (by omega), h2, show ((15 : Int) + (i : Int) - 15).toNat = i by omega, if_pos ⟨by omega, by omega, rfl⟩, if_neg (by omega)]
  rfl
theorem cw_mi_0 (L : Nat) (xs : Nat → Int32) : cw_mi L xs (-1) 0 = 32 ∧ cw_mi L xs (-1) 1 = 0 := by
  have h : (-1 : Int) ≠ cw_scr L := by unfold cw_scr; omega
  rw [cw_mi_k h, cw_mi_k h]
  exact ⟨by decide, by decide⟩
theorem cw_vaT {ty : FieldType} {t N : Nat} {f g : Nat → Value} {A : Nat → Prop} {U : State} {H : Heap} (h : va_T ty t N f A U H) (hf : ∀ j : Nat, j < N → f j = g j) : va_T ty t N g A U H := by
  obtain ⟨cell, h1, h2, h3, h4, h5, h6, h7⟩ := h
  exact ⟨cell, h1, h2, h3, h4, h5, fun j hj => by rw [← hf j hj]; exact h6 j hj, h7⟩
def cw_tm (i : Nat) : Term := .string "CommaWill$Reader" (cw_si i)
def cw_lens : List Nat := [3, 2, 2, 2, 2, 5, 3, 17, 42, 18, 42]
def cw_byl : List (List Int32) := [[97, 110, 100], [111, 114], [105, 102], [97, 115], [116, 111], [116, 105, 109, 101, 115], [110, 111, 116], [115, 104, 97, 114, 101, 115, 32, 116, 97, 120, 101, 115, 32, 98, 97, 114, 115], [106, 111, 105, 110, 32, 108, 101, 102, 116, 32, 114, 105, 103, 104, 116, 32, 119, 111, 114, 116, 104, 32, 104, 101, 105, 114, 32, 116, 105, 109, 101, 115, 32, 121, 101, 97, 114, 32, 109, 111, 111, 100], [109, 97, 114, 107, 32, 116, 117, 114, 110, 32, 100, 105, 101, 32, 112, 97, 115, 115], [121, 101, 97, 114, 32, 100, 111, 110, 101, 32, 108, 97, 116, 101, 115, 116, 32, 114, 101, 97, 100, 105, 110, 103, 115, 32, 108, 105, 118, 105, 110, 103, 32, 109, 97, 114, 107, 32, 107, 105, 110, 100]]
def cw_nar : Cond := Jvm.Cond.and given_1 narrow_1
theorem cw_f1 : ∀ i : Nat, i < 11 → Cond.exactly (cw_tm i) "java/lang/String" ∈ flatC cw_nar := by decide +kernel
theorem cw_f2 : ∀ i : Nat, i < 11 → Cond.eq (.field (cw_tm i) "java/lang/String" "coder" "B") (.int 0) ∈ flatC cw_nar := by decide +kernel
theorem cw_f3 : ∀ i : Nat, i < 11 → Cond.arrayOf (.field (cw_tm i) "java/lang/String" "value" "[B") .byte ∈ flatC cw_nar := by decide +kernel
theorem cw_f4 : ∀ i : Nat, i < 11 → Cond.eq (.length (.field (cw_tm i) "java/lang/String" "value" "[B")) (.int (Int32.ofNat (cw_lens.getD i 0))) ∈ flatC cw_nar := by decide +kernel
theorem cw_f5 : ∀ i : Nat, i < 11 → ∀ j : Nat, j < cw_lens.getD i 0 → Cond.eq (.elem (.field (cw_tm i) "java/lang/String" "value" "[B") (.int (Int32.ofNat j))) (.int ((cw_byl.getD i []).getD j 0)) ∈ flatC cw_nar := by decide +kernel
theorem cw_f6 : ∀ i : Nat, i < 11 → ∀ j : Nat, j < 11 → i ≠ j → Cond.not (Cond.eq (cw_tm i) (cw_tm j)) ∈ flatC cw_nar ∨ Cond.not (Cond.eq (cw_tm j) (cw_tm i)) ∈ flatC cw_nar := by decide +kernel
theorem cw_f7 : ∀ j : Nat, j < 7 → Cond.eq (.elem (.static "CommaWill" "TREES" "[I") (.int (Int32.ofNat j))) (.int (Int32.ofInt ([1, 1, 2, 5, 14, 42, 132].getD j 0))) ∈ flatC cw_nar := by decide +kernel
theorem cw_f8 : ∀ j : Nat, j < 4 → Cond.eq (.elem (.static "CommaWill" "TERM_MOST" "[I") (.int (Int32.ofNat j))) (.int (Int32.ofInt ([999, 9999, 9, 10].getD j 0))) ∈ flatC cw_nar := by decide +kernel
theorem cw_f9 : Cond.arrayOf (.static "CommaWill" "TREES" "[I") .int ∈ flatC cw_nar ∧ Cond.eq (.length (.static "CommaWill" "TREES" "[I")) (.int (Int32.ofNat 7)) ∈ flatC cw_nar ∧ Cond.arrayOf (.static "CommaWill" "TERM_MOST" "[I") .int ∈ flatC cw_nar ∧ Cond.eq (.length (.static "CommaWill" "TERM_MOST" "[I")) (.int (Int32.ofNat 4)) ∈ flatC cw_nar ∧ Cond.eq (.static "java/lang/String" "COMPACT_STRINGS" "Z") (.int 1) ∈ flatC cw_nar ∧ Cond.isRef (.static "jdk/internal/util/Preconditions" "SIOOBE_FORMATTER" "Ljava/util/function/BiFunction;") ∈ flatC cw_nar := by decide +kernel
theorem cw_byl_eq : ∀ i : Nat, i < 11 → ∀ j : Nat, j < cw_bl i → (cw_byl.getD i []).getD j 0 = Int32.ofInt ((cw_bys i).getD j 0) := by decide +kernel
theorem cw_lens_eq : ∀ i : Nat, i < 11 → cw_lens.getD i 0 = cw_bl i := by decide
theorem cw_si_ok : ∀ e ∈ cw_LS0, cw_cn e.2.1 = "CommaWill$Reader" ∧ e.2.2.1 = cw_si e.2.2.2 ∧ e.2.2.2 < 11 := by decide +kernel
theorem cw_tw {i : Nat} {w : Cond} (h : tables_1[i]? = some w) : w ∈ lw_tbl := List.mem_append_right _ (List.mem_of_getElem? h)
theorem cw_t1 : Cond.laysStatic "CommaWill" "TREES" "[I" ∈ lw_tbl := cw_tw (i := 480) (by decide +kernel)
theorem cw_t2 : Cond.laysStatic "CommaWill" "TERM_MOST" "[I" ∈ lw_tbl := cw_tw (i := 535) (by decide +kernel)
theorem cw_t3 : Cond.laysStatic "java/lang/String" "COMPACT_STRINGS" "Z" ∈ lw_tbl := cw_tw (i := 590) (by decide +kernel)
theorem cw_t4 : Cond.laysStatic "jdk/internal/util/Preconditions" "SIOOBE_FORMATTER" "Ljava/util/function/BiFunction;" ∈ lw_tbl := cw_tw (i := 606) (by decide +kernel)
theorem cw_t5 : Cond.initialized "CommaWill" ∈ lw_tbl := cw_tw (i := 1) (by decide +kernel)
theorem cw_t6 : Cond.initialized "java/lang/String" ∈ lw_tbl := cw_tw (i := 13) (by decide +kernel)
theorem cw_t7 : Cond.initialized "jdk/internal/util/Preconditions" ∈ lw_tbl := cw_tw (i := 15) (by decide +kernel)
theorem cw_t8 : Cond.arrayOver (.object "CommaWill$Text") ∈ lw_tbl := cw_tw (i := 34) (by decide +kernel)
theorem cw_t9 : Cond.arrayOver (.object "CommaWill$Will") ∈ lw_tbl := cw_tw (i := 100) (by decide +kernel)
theorem cw_nw_ok : ∀ w ∈ cw_NW, w ∈ lw_tbl ∧ w.onTables = true := by
  intro w hw
  unfold cw_NW at hw
  rcases List.mem_append.mp hw with hw | hw
  · obtain ⟨e, he, rfl⟩ := List.mem_map.mp hw; exact ⟨cw_tw (cw_LG_ok e he), rfl⟩
  · rcases List.mem_append.mp hw with hw | hw
    · obtain ⟨e, he, rfl⟩ := List.mem_map.mp hw; exact ⟨cw_tw (cw_LN_ok e he), rfl⟩
    · rw [List.mem_singleton.mp hw]; exact ⟨cw_tw (i := 479) (by decide +kernel), rfl⟩
