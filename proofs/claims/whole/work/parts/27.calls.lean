/-! One step of the abstract machine, carried over to the JVM: lookups, copies, returns, calls. -/
theorem cw_lk_of (pc : Nat) (d : Int) : ∀ (l : List (Int × Int)) (v : Int), cw_lk pc d l v = ((pc : Int) + Op.lookupswitch.offset l d v).toNat
  | [], v => rfl
  | q :: t, v => by
    show (if v = q.1 then ((pc : Int) + q.2).toNat else cw_lk pc d t v) = _
    rw [show Op.lookupswitch.offset (q :: t) d v = if q.1 = v then q.2 else Op.lookupswitch.offset t d v from rfl]
    by_cases h : v = q.1
    · rw [if_pos h, if_pos h.symm]
    · rw [if_neg h, if_neg (fun z => h z.symm)]; exact cw_lk_of pc d t v
theorem cw_lk_nn {pc : Nat} {d : Int} (h1 : 0 ≤ (pc : Int) + d) : ∀ {l : List (Int × Int)} (v : Int), (∀ z ∈ l, 0 ≤ (pc : Int) + z.2) → 0 ≤ (pc : Int) + Op.lookupswitch.offset l d v
  | [], v, _ => h1
  | q :: t, v, h => by
    rw [show Op.lookupswitch.offset (q :: t) d v = if q.1 = v then q.2 else Op.lookupswitch.offset t d v from rfl]
    by_cases hq : q.1 = v
    · rw [if_pos hq]; exact h q List.mem_cons_self
    · rw [if_neg hq]; exact cw_lk_nn h1 v (fun z hz => h z (List.mem_cons_of_mem _ hz))
theorem cw_T_good {w : Cond} (h : w ∈ cw_T) : (w.onTables && w.keeps) = true ∨ ∃ ty, w = .arrayClass ty := good_of_word (List.mem_filter.mp h).2
theorem cw_KV_same {E : cw_E} {u U : State} (h : u.vm = U.vm) (hk : cw_KV E u) : cw_KV E U := by
  have ha : u.vm.Alike U.vm := by rw [h]; exact Vm.Alike.refl _
  refine ⟨va_K.moved ha hk.1, fun w hw => ?_, hk.2.2.1.moved ha, hk.2.2.2.1.moved ha, fun e he => (hk.2.2.2.2 e he).same h.symm⟩
  have hon : w.onTables = true := by
    unfold cw_NW at hw
    rcases List.mem_append.mp hw with hw | hw
    · obtain ⟨e, -, rfl⟩ := List.mem_map.mp hw; rfl
    · rcases List.mem_append.mp hw with hw | hw
      · obtain ⟨e, -, rfl⟩ := List.mem_map.mp hw; rfl
      · rw [List.mem_singleton.mp hw]; rfl
  exact va_Nw.same hon h (hk.2.1 w hw)
theorem cw_KV_warm {E : cw_E} {u U : State} (h : u.WarmedH U.vm) (hk : cw_KV E u) : cw_KV E U := by
  refine ⟨va_K.moved h.alike hk.1, fun w hw => ?_, hk.2.2.1.moved h.alike, hk.2.2.2.1.moved h.alike, fun e he => (hk.2.2.2.2 e he).warm h⟩
  have hz := hk.2.1 w hw
  unfold cw_NW at hw
  rcases List.mem_append.mp hw with hw | hw
  · obtain ⟨e, -, rfl⟩ := List.mem_map.mp hw; exact va_Nw.warmF h hz
  · rcases List.mem_append.mp hw with hw | hw
    · obtain ⟨e, -, rfl⟩ := List.mem_map.mp hw; exact va_Nw.warmM h hz
    · rw [List.mem_singleton.mp hw] at hz ⊢; exact va_Nw.warmF h hz
theorem cw_KH_moved {E : cw_E} {L : Nat} {m0 : cw_M} {u U : State} {H H' : Heap} (hvm : u.vm.Alike U.vm) (hq : ∀ a : Nat, a < H.size → ¬ cw_AA E a → H'[a]? = H[a]?) (h : cw_KH E L m0 u H) : cw_KH E L m0 U H' :=
  ⟨(h.1.kept hq).moved hvm, (h.2.1.kept hq).moved hvm, (h.2.2.1.kept hq).moved hvm, (h.2.2.2.1.kept hq).moved hvm, fun q hm => ((h.2.2.2.2.1 q hm).kept hq).moved hvm, fun i hi => ⟨((h.2.2.2.2.2 i hi).1.kept hq).moved hvm, ((h.2.2.2.2.2 i hi).2.1.kept hq).moved hvm, ((h.2.2.2.2.2 i hi).2.2.kept hq).moved hvm⟩⟩
/-- a method's start and end, as contracts -/
def cw_Pc (E : cw_E) (L : Nat) (m0 : cw_M) (as : List cw_V) (m : cw_M) : Array Value → State → Prop := fun v U => v = (as.map (cw_tv E)).toArray ∧ cw_KV E U ∧ cw_KH E L m0 U U.heap ∧ cw_rep E L m0 m U.heap ∧ ∀ w ∈ as, cw_kk L m w
def cw_Qc (E : cw_E) (L : Nat) (m0 : cw_M) (r : Option cw_V) (m : cw_M) : Array Value → State → Outcome → State → Prop := fun _ st o t => o = .returned (r.map (cw_tv E)) ∧ cw_rep E L m0 m t.heap ∧ (∀ v, r = some v → cw_kk L m v) ∧ va_F (cw_AA E) st t
theorem cw_Pc_blind {E : cw_E} {L : Nat} {m0 : cw_M} {as : List cw_V} {m : cw_M} : FrameBlind (cw_Pc E L m0 as m) := by
  intro a U g mk h
  exact ⟨h.1, cw_KV_same (u := U) (U := U.calling g mk a) rfl h.2.1, cw_KH_moved (u := U) (U := U.calling g mk a) (Vm.Alike.refl U.vm) (fun _ _ _ => rfl) h.2.2.1, h.2.2.2⟩
/-- how a method's frame may end -/
def cw_rs (u pc : Nat) (st : List cw_V) (r : Option cw_V) : Prop :=
  (decode (cw_by u) pc = .ok (.return_, 1) ∧ cw_rtt u = none ∧ st = [] ∧ r = none) ∨
  (∃ (k : Nat) (v : Int), decode (cw_by u) pc = .ok (.ireturn, 1) ∧ cw_rk k (cw_rtt u) = true ∧ cw_ok k v ∧ st = [vi v] ∧ r = some (vi v)) ∨
  (∃ v : Int, decode (cw_by u) pc = .ok (.lreturn, 1) ∧ cw_rtt u = some .long ∧ st = [vl v] ∧ r = some (vl v)) ∨
  (∃ (v : Int) (ty : FieldType), decode (cw_by u) pc = .ok (.areturn, 1) ∧ cw_rtt u = some ty ∧ ((∃ n, ty = .object n) ∨ ∃ t, ty = .array t) ∧ st = [vr v] ∧ r = some (vr v))
section CWR
variable {p : Program} {l : Launch} {e : Env} {R : Room} {s : State} {mm : MethodId} {args : Array Value} {below : List Frame} {meth : Method} {c : Code} {Z : State → Prop} {E : cw_E} {L : Nat} {m0 mE mF : cw_M} {nL u : Nat}
variable {K : Nat → List cw_V → List cw_V → cw_M → Prop} {C : Nat → List cw_V → cw_M → (Option cw_V → cw_M → Prop) → Prop} {Q : Option cw_V → cw_M → Prop} {ls st : List cw_V} {m : cw_M} {pc len a b : Nat} {x y : Int}
theorem si_lsw (X : cw_X p s mm args meth c E L m0 nL u) {d : Int} {ps : Array (Int × Int)} (hd : decode (cw_by u) pc = .ok (.lookupswitch d ps, len)) (h1 : 0 ≤ (pc : Int) + d) (h2 : (ps.toList.zip (ps.toList.drop 1)).all (fun (a, next) => a.1 < next.1) = true) (h3 : ∀ z ∈ ps.toList, 0 ≤ (pc : Int) + z.2)
    (hgo : ∀ pc ls st m, K pc ls st m → cw_WW p l e R s mm args below meth c Z E L m0 mE nL pc ls st m) (h : cw_G K C Q ls m (cw_stp (pc, len, .lookupswitch d ps, a, b, x, y) ls st m)) : cw_WW p l e R s mm args below meth c Z E L m0 mE nL pc ls st m := by
  obtain ⟨hx, hb, hml, hrt, hlk, hown, hts, hKV, hKH, h0, hin, hbs⟩ := X
  obtain ⟨v, s0, rfl, h⟩ := cw_p1_inv h
  have h : K (cw_lk pc d ps.toList v) ls s0 m := h
  intro H locs LS J
  have hv := J.2.2.2.1 _ List.mem_cons_self
  have kk := hgo _ _ _ _ h H locs LS (cw_J_st J (fun z hz => J.2.2.2.1 z (List.mem_cons_of_mem _ hz)))
  rw [cw_lk_of] at kk
  have hn := cw_lk_nn h1 v h3
  exact lv_lookup hx hb hd h2 (off := Op.lookupswitch.offset ps.toList d v) (by rw [cw_ti hv]) (by omega) kk
/-- the end of a method's frame, for a contract -/
theorem si_ret (X : cw_X p s mm args meth c E L m0 nL u) {rF : Option cw_V} (h : cw_rs u pc st rF) : cw_WW p l e R s mm args below meth c (MQ below (cw_Qc E L m0 rF m) args s (m (-1) 0 - mE (-1) 0).toNat (m (-1) 1 - mE (-1) 1).toNat (cw_AA E)) E L m0 mE nL pc ls st m := by
  obtain ⟨hx, hb, hml, hrt, hlk, hown, hts, hKV, hKH, h0, hin, hbs⟩ := X
  intro H locs LS J
  have hlocks : meth.locks = false := hlk
  have hq : ∀ t : State, t.heap = H → s.WarmedH t.vm → (∀ v, rF = some v → v ∈ st) → cw_Qc E L m0 rF m args s (.returned (rF.map (cw_tv E))) t := fun t ht hW hm => ⟨rfl, by rw [ht]; exact J.1, fun v hv => J.2.2.2.1 v (hm v hv), J.2.1.F ht⟩
  have hf : ∀ q ∈ locs, cw_AA E q.base := J.2.1.2.2
  rcases h with ⟨hd, hr, rfl, rfl⟩ | ⟨k, v, hd, hr, hok, rfl, rfl⟩ | ⟨v, hd, hr, rfl, rfl⟩ | ⟨v, ty, hd, hr, hty, rfl, rfl⟩
  · exact W.vret hx hb (hrt.trans hr) (fun t ht hW => hq t ht hW (fun v hv => by cases hv)) hf hd
  · have hv := J.2.2.2.1 _ List.mem_cons_self
    have hm : ∀ w, some (vi v) = some w → w ∈ [vi v] := fun w hw => by cases hw; exact List.mem_cons_self
    match k, hr, hok with
    | 0, hr, hok => exact W.iret hx hb (hrt.trans (by simpa [cw_rk] using hr)) (fun t ht hW => hq t ht hW hm) hf hd
    | 1, hr, hok => exact W.zret hx hb (hrt.trans (show cw_rtt u = some .boolean by simpa [cw_rk] using hr)) (cw_nf (E := E) h0 (ty := .boolean) (a := 0) (b := 1) (v := v) rfl (fun _ => hv) (fun _ => hok) (by decide) (by decide)).1 (fun t ht hW => hq t ht hW hm) hf hd
    | 2, hr, hok =>
      refine W.zret hx hb (hrt.trans (show cw_rtt u = some .char by simpa [cw_rk] using hr)) ?_ (fun t ht hW => hq t ht hW hm) hf hd
      have hok : 0 ≤ v ∧ v < 65536 := hok
      have h1 := (pk_charN (q := v.toNat) (by omega)).1
      have h2 : nI v.toNat = Int32.ofInt v := by
        show Int32.ofInt ((v.toNat : Nat) : Int) = _
        congr 1; omega
      rw [h2] at h1
      exact h1
    | 3, hr, hok => exact W.zret hx hb (hrt.trans (show cw_rtt u = some .byte by simpa [cw_rk] using hr)) (cw_nf (E := E) h0 (ty := .byte) (a := 0) (b := 3) (v := v) rfl (fun _ => hv) (fun _ => hok) (by decide) (by decide)).1 (fun t ht hW => hq t ht hW hm) hf hd
    | 4, hr, hok =>
      refine W.zret hx hb (hrt.trans (show cw_rtt u = some .short by simpa [cw_rk] using hr)) ?_ (fun t ht hW => hq t ht hW hm) hf hd
      have hok : -32768 ≤ v ∧ v < 32768 := hok
      show Value.int (Int32.ofInt v).toInt16.toInt32 = _
      congr 1
      apply Int32.toInt.inj
      rw [Int16.toInt_toInt32, Int32.toInt_toInt16, cw_ti hv]
      show Int.bmod v 65536 = v
      rw [Int.bmod_def]; split <;> omega
    | k + 5, hr, hok => cases hr
  · exact W.lret hx hb (hrt.trans hr) (fun t ht hW => hq t ht hW (fun w hw => by cases hw; exact List.mem_cons_self)) hf hd
  · refine W.aret hx hb (hrt.trans hr) hty (cw_rv_or h0 v) (fun t ht hW => hq t ht hW (fun w hw => by cases hw; exact List.mem_cons_self)) hf hd
/-- behind a call -/
theorem cw_call_go {as s0 : List cw_V} {H : Heap} {locs : List Loc} {LS : Array Slot} {av : Array Value} {st0 : List Value} {r : Option cw_V} {m' : cw_M} (J : cw_J E L m0 s nL mE ls st m H locs LS) (hgo : ∀ pc ls st m, K pc ls st m → cw_WW p l e R s mm args below meth c Z E L m0 mE nL pc ls st m) (h : K (pc + 3) ls (r.toList ++ s0) m') (hs : ∀ v ∈ s0, cw_kk L m v) (hmm : m (-1) 0 ≤ m' (-1) 0 ∧ m (-1) 1 ≤ m' (-1) 1) (hvd : ∀ c, cw_vd m c → cw_vd m' c)
    (hr : va_Run p l e R s mm args below meth c H locs (m (-1) 0 - mE (-1) 0).toNat (m (-1) 1 - mE (-1) 1).toNat (m' (-1) 0 - m (-1) 0).toNat (m' (-1) 1 - m (-1) 1).toNat (F0 mm pc LS st0) (s0.map (cw_tv E)) (cw_Qc E L m0 r m' av) (cw_AA E)) :
    W p l e R s mm args below meth c H locs (m (-1) 0 - mE (-1) 0).toNat (m (-1) 1 - mE (-1) 1).toNat Z (F0 mm pc LS st0) := by
  intro T hT X
  obtain ⟨v, st₀, t, T', Lo, h0, X', hL, e1, e2, ⟨q1, q2, q3, q4⟩, go⟩ := hr T hT X
  have hv : v = r.map (cw_tv E) := by cases q1; rfl
  subst hv
  have hkk : ∀ w, cw_kk L m w → cw_kk L m' w := by
    intro w hw
    rcases w with _ | z | z | z
    · exact hw
    · exact hw
    · exact hw
    · rcases hw with hw | hw | hw
      · exact Or.inl hw
      · exact Or.inr (Or.inl (hvd z hw))
      · exact Or.inr (Or.inr hw)
  have hE := J.2.2.2.2.2
  have q4 : H.size ≤ T'.heap.size ∧ ∀ q : Nat, q < H.size → ¬ cw_AA E q → T'.heap[q]? = H[q]? := by
    rw [e1, ← h0]; exact q4
  have kk := hgo _ _ _ _ h T'.heap (locs ++ Lo) LS ⟨by rw [e1]; exact q2, ⟨Nat.le_trans J.2.1.1 q4.1, fun q g1 g2 => (q4.2 q (Nat.lt_of_lt_of_le g1 J.2.1.1) g2).trans (J.2.1.2.1 q g1 g2), fun q hq => by
      rcases List.mem_append.mp hq with z | z
      · exact J.2.1.2.2 q z
      · exact hL q z⟩, J.2.2.1, fun w hw => by
      rcases List.mem_append.mp hw with z | z
      · exact q3 w (by cases r with
          | none => cases z
          | some r => rw [List.mem_singleton.mp z])
      · exact hkk w (hs w z), fun i w hw => hkk _ (J.2.2.2.2.1 i w hw), by omega, by omega⟩
  rw [show (m' (-1) 0 - mE (-1) 0).toNat = (m (-1) 0 - mE (-1) 0).toNat + (m' (-1) 0 - m (-1) 0).toNat by omega, show (m' (-1) 1 - mE (-1) 1).toNat = (m (-1) 1 - mE (-1) 1).toNat + (m' (-1) 1 - m (-1) 1).toNat by omega] at kk
  obtain ⟨t2, a1, b1⟩ := kk T' rfl X'
  refine ⟨t2, go t2 ?_, b1⟩
  have es : (r.map (cw_tv E)).toList ++ s0.map (cw_tv E) = (r.toList ++ s0).map (cw_tv E) := by cases r <;> rfl
  rw [es]
  exact a1
end CWR
