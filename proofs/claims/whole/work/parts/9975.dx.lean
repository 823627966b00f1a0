/-! A computing copy of the machine for the constructors: its memory is a list of what was stored (wip/whole/tools/m175.py). -/
abbrev dn_D : Type := Int × Int × List (Int × Int × Int)
def dn_lk : List (Int × Int × Int) → Int → Int → Int
  | [], _, _ => 0
  | e :: t, c, j => if c = e.1 ∧ j = e.2.1 then e.2.2 else dn_lk t c j
def dn_fr (c : Int) : List (Int × Int × Int) → Bool
  | [] => true
  | e :: t => if c = e.1 then false else dn_fr c t
theorem dn_fr_lk {c : Int} : ∀ {g : List (Int × Int × Int)}, dn_fr c g = true → ∀ j, dn_lk g c j = 0
  | [], _, _ => rfl
  | e :: t, h, j => by
    unfold dn_fr at h
    by_cases hc : c = e.1
    · rw [if_pos hc] at h; cases h
    · rw [if_neg hc] at h
      unfold dn_lk
      rw [if_neg (fun q => hc q.1)]
      exact dn_fr_lk h j
/-- the list tells the memory -/
def dn_r (B : cw_M) (D : dn_D) (m : cw_M) : Prop := (m (-1) 0 = D.1 ∧ m (-1) 1 = D.2.1) ∧ (∀ c, 33554432 ≤ c → ∀ j, m c j = dn_lk D.2.2 c j) ∧ ∀ c, 0 ≤ c → c < 33554432 → m c = B c
def dn_put (D : dn_D) (c i v : Int) : dn_D := (D.1, D.2.1, (c, i, v) :: D.2.2)
def dn_nc (D : dn_D) (t n : Int) : Int := (D.1 * 16384 + n) * 64 + t
def dn_new (D : dn_D) (n : Int) : dn_D := (D.1 + 1, D.2.1 + n, D.2.2)
theorem dn_put_ok {B m : cw_M} {D : dn_D} {c i v : Int} (h : dn_r B D m) (hc : 33554432 ≤ c) : dn_r B (dn_put D c i v) (cw_put m c i v) := by
  obtain ⟨⟨h1, h2⟩, h3, h4⟩ := h
  refine ⟨⟨?_, ?_⟩, fun b hb j => ?_, fun b x y => ?_⟩
  · rw [cw_put_ne (by omega)]; exact h1
  · rw [cw_put_ne (by omega)]; exact h2
  · show (if b = c ∧ j = i then v else m b j) = (if b = c ∧ j = i then v else dn_lk D.2.2 b j)
    rw [h3 b hb]
  · rw [cw_put_ne (by omega)]; exact h4 b x y
theorem dn_nc_eq {B m : cw_M} {D : dn_D} {t n : Int} (h : dn_r B D m) : cw_nc m t n = dn_nc D t n := by unfold cw_nc dn_nc; rw [h.1.1]
theorem dn_new_ok {B m : cw_M} {D : dn_D} {t n : Int} (h : dn_r B D m) (hc : 33554432 ≤ dn_nc D t n) (hf : dn_fr (dn_nc D t n) D.2.2 = true) : dn_r B (dn_new D n) (cw_new m t n) := by
  have hq := dn_nc_eq (t := t) (n := n) h
  rw [← hq] at hc hf
  obtain ⟨⟨h1, h2⟩, h3, h4⟩ := h
  refine ⟨⟨?_, ?_⟩, fun b hb j => ?_, fun b x y => ?_⟩
  · rw [cw_new_0 hc, h1]; rfl
  · rw [cw_new_1 hc, h2]; rfl
  · by_cases e : b = cw_nc m t n
    · rw [e, cw_new_c]; exact (dn_fr_lk hf j).symm
    · rw [cw_new_b e (by omega) (by omega)]; exact h3 b hb j
  · rw [cw_new_b (by omega) (by omega) (by omega)]; exact h4 b x y
abbrev dn_O : Type := Option cw_V × dn_D
def dx_d (v : cw_V) : cw_V := match v with
  | some (.inr (.inl _)) => none
  | none => none
  | some (.inl x) => vi x
  | some (.inr (.inr x)) => vr x
def dx_st : List cw_V → Nat → cw_V → Option (List cw_V)
  | [], _, _ => none
  | _ :: t, 0, v => some (v :: t)
  | a :: t, 1, v => match dx_st t 0 v with
    | some t' => some (dx_d a :: t')
    | none => none
  | a :: t, n + 2, v => match dx_st t (n + 1) v with
    | some t' => some (a :: t')
    | none => none
theorem dx_st_ok : ∀ {ls : List cw_V} {n : Nat} {v : cw_V} {ls' : List cw_V} {k : List cw_V → Option cw_O}, dx_st ls n v = some ls' → cw_st ls n v k = k ls'
  | [], _, _, _, _, h => by simp [dx_st] at h
  | a :: t, 0, v, ls', k, h => by
    simp [dx_st] at h
    rw [← h]; rfl
  | a :: t, 1, v, ls', k, h => by
    unfold dx_st at h
    split at h
    · rename_i t' ht
      cases h
      have e : ∀ a', (cw_st t 0 v fun t' => k (a' :: t')) = k (a' :: t') := fun a' => dx_st_ok (k := fun t' => k (a' :: t')) ht
      show cw_dl a (fun a' => cw_st t 0 v fun t' => k (a' :: t')) = k (dx_d a :: t')
      match a with
      | none => exact e none
      | some (.inl x) => exact e (vi x)
      | some (.inr (.inl x)) => exact e none
      | some (.inr (.inr x)) => exact e (vr x)
    · cases h
  | a :: t, n + 2, v, ls', k, h => by
    unfold dx_st at h
    split at h
    · rename_i t' ht
      cases h
      exact dx_st_ok (k := fun t' => k (a :: t')) ht
    · cases h
/-- one step -/
def dx_stp (K : Nat → List cw_V → List cw_V → dn_D → Option dn_O) (C : Nat → List cw_V → dn_D → Option dn_O) (q : cw_A) (ls st : List cw_V) (D : dn_D) : Option dn_O := match q with
  | (pc, len, i, a, b, x, y) => match i with
    | .aconst_null => K (pc + len) ls (vr 0 :: st) D
    | .iconst _ => K (pc + len) ls (vi x :: st) D
    | .bipush _ => K (pc + len) ls (vi x :: st) D
    | .sipush _ => K (pc + len) ls (vi x :: st) D
    | .iload_n _ => match cw_lg ls a with
      | some (.inl v) => K (pc + len) ls (vi v :: st) D
      | _ => none
    | .aload_n _ => match cw_lg ls a with
      | some (.inr (.inr v)) => K (pc + len) ls (vr v :: st) D
      | _ => none
    | .istore_n _ => match st with
      | some (.inl v) :: s => match dx_st ls a (vi v) with
        | some ls' => K (pc + len) ls' s D
        | none => none
      | _ => none
    | .iinc _ _ => match cw_lg ls a with
      | some (.inl v) => match dx_st ls a (vi (cw_w (v + x))) with
        | some ls' => K (pc + len) ls' st D
        | none => none
      | _ => none
    | .iadd => match st with
      | some (.inl v) :: some (.inl u) :: s => K (pc + len) ls (vi (cw_w (u + v)) :: s) D
      | _ => none
    | .dup => match st with
      | some (.inr (.inr v)) :: s => K (pc + len) ls (vr v :: vr v :: s) D
      | _ => none
    | .goto _ => K a ls st D
    | .if_icmp .ge _ => match st with
      | some (.inl v) :: some (.inl u) :: s => if v ≤ u then K a ls s D else K (pc + len) ls s D
      | _ => none
    | .getfield _ => match st with
      | some (.inr (.inr c)) :: s => if cw_tg c = x ∧ 33554432 ≤ c then K (pc + len) ls (cw_kv a (dn_lk D.2.2 c y) :: s) D else none
      | _ => none
    | .putfield _ => match a with
      | 0 => match st with
        | some (.inl v) :: some (.inr (.inr c)) :: s => match b with
          | 0 => if cw_tg c = x ∧ 33554432 ≤ c then K (pc + len) ls s (dn_put D c y v) else none
          | 1 => if cw_tg c = x ∧ 33554432 ≤ c ∧ (v = 0 ∨ v = 1) then K (pc + len) ls s (dn_put D c y v) else none
          | _ => none
        | _ => none
      | 2 => match st with
        | some (.inr (.inr v)) :: some (.inr (.inr c)) :: s => if cw_tg c = x ∧ 33554432 ≤ c then K (pc + len) ls s (dn_put D c y v) else none
        | _ => none
      | _ => none
    | .iaload => match st with
      | some (.inl i) :: some (.inr (.inr c)) :: s => if (cw_tg c = 40 ∧ 0 ≤ i ∧ i < cw_ln c) ∧ 33554432 ≤ c then K (pc + len) ls (vi (dn_lk D.2.2 c i) :: s) D else none
      | _ => none
    | .iastore => match st with
      | some (.inl v) :: some (.inl i) :: some (.inr (.inr c)) :: s => if (cw_tg c = 40 ∧ 33554432 ≤ c) ∧ 0 ≤ i ∧ i < cw_ln c then K (pc + len) ls s (dn_put D c i v) else none
      | _ => none
    | .bastore => match st with
      | some (.inl v) :: some (.inl i) :: some (.inr (.inr c)) :: s => if ((cw_tg c = 43 ∧ -128 ≤ v ∧ v < 128) ∧ 33554432 ≤ c) ∧ 0 ≤ i ∧ i < cw_ln c then K (pc + len) ls s (dn_put D c i v) else none
      | _ => none
    | .new _ => if (D.1 < 600032 ∧ D.2.1 + y ≤ 7302250) ∧ 33554432 ≤ dn_nc D x y ∧ dn_fr (dn_nc D x y) D.2.2 = true then K (pc + len) ls (vr (dn_nc D x y) :: st) (dn_new D y) else none
    | .newarray _ => match st with
      | some (.inl n) :: s => if ((0 ≤ n ∧ n < 16384) ∧ D.1 < 600032 ∧ D.2.1 + n ≤ 7302250) ∧ 33554432 ≤ dn_nc D x n ∧ dn_fr (dn_nc D x n) D.2.2 = true then K (pc + len) ls (vr (dn_nc D x n) :: s) (dn_new D n) else none
      | _ => none
    | .anewarray _ => match st with
      | some (.inl n) :: s => if ((0 ≤ n ∧ n < 16384) ∧ D.1 < 600032 ∧ D.2.1 + n ≤ 7302250) ∧ 33554432 ≤ dn_nc D x n ∧ dn_fr (dn_nc D x n) D.2.2 = true then K (pc + len) ls (vr (dn_nc D x n) :: s) (dn_new D n) else none
      | _ => none
    | .return_ => match st with
      | [] => some (none, D)
      | _ => none
    | .invokespecial _ => match a with
      | 0 => match st with
        | some (.inr (.inr c)) :: s => if Nat.ble (cw_cs s) 8 = true ∧ c ≠ 0 then K (pc + len) ls s D else none
        | _ => none
      | a + 1 => match b with
        | 1 => match st with
          | some (.inr (.inr c)) :: s => if (Nat.ble (cw_cs s) 8 && Nat.ble (cw_cs [vr c]) y.toNat) = true ∧ cw_tg c = x then (match C (a + 1) [vr c] D with
            | some (r, D') => K (pc + len) ls (r.toList ++ s) D'
            | none => none) else none
          | _ => none
        | 2 => match st with
          | v :: some (.inr (.inr c)) :: s => if (Nat.ble (cw_cs s) 8 && Nat.ble (cw_cs [vr c, v]) y.toNat) = true ∧ cw_tg c = x then (match C (a + 1) [vr c, v] D with
            | some (r, D') => K (pc + len) ls (r.toList ++ s) D'
            | none => none) else none
          | _ => none
        | _ => none
    | _ => none
theorem dx_stp_ok {B : cw_M} {K : Nat → List cw_V → List cw_V → dn_D → Option dn_O} {C : Nat → List cw_V → dn_D → Option dn_O} {K' : Nat → List cw_V → List cw_V → cw_M → Prop} {C' : Nat → List cw_V → cw_M → (Option cw_V → cw_M → Prop) → Prop} {Q : Option cw_V → cw_M → Prop} {q : cw_A} {ls st : List cw_V} {D D' : dn_D} {r : Option cw_V} {m : cw_M} (h : dx_stp K C q ls st D = some (r, D')) (hm : dn_r B D m)
    (hK : ∀ pc ls st D m, K pc ls st D = some (r, D') → dn_r B D m → K' pc ls st m) (hC : ∀ z as D m r1 D1 R, C z as D = some (r1, D1) → dn_r B D m → (∀ m', dn_r B D1 m' → R r1 m') → C' z as m R) (hQ : ∀ m, dn_r B D' m → Q r m) : cw_G K' C' Q ls m (cw_stp q ls st m) := by
  obtain ⟨pc, len, i, a, b, x, y⟩ := q
  unfold dx_stp at h
  split at h
  rename_i heq
  cases heq
  split at h
  · exact hK _ _ _ _ _ h hm
  · exact hK _ _ _ _ _ h hm
  · exact hK _ _ _ _ _ h hm
  · exact hK _ _ _ _ _ h hm
  · split at h
    · rename_i e
      show cw_G _ _ _ _ _ (cw_gi ls a _)
      unfold cw_gi
      rw [e]
      exact hK _ _ _ _ _ h hm
    · cases h
  · split at h
    · rename_i e
      show cw_G _ _ _ _ _ (cw_gr ls a _)
      unfold cw_gr
      rw [e]
      exact hK _ _ _ _ _ h hm
    · cases h
  · split at h
    · split at h
      · rename_i e
        show cw_G _ _ _ _ _ (cw_st _ _ _ _)
        rw [dx_st_ok e]
        exact hK _ _ _ _ _ h hm
      · cases h
    · cases h
  · split at h
    · rename_i e
      split at h
      · rename_i e2
        show cw_G _ _ _ _ _ (cw_gi ls a _)
        unfold cw_gi
        rw [e]
        show cw_G _ _ _ _ _ (cw_st _ _ _ _)
        rw [dx_st_ok e2]
        exact hK _ _ _ _ _ h hm
      · cases h
    · cases h
  · split at h
    · exact hK _ _ _ _ _ h hm
    · cases h
  · split at h
    · exact hK _ _ _ _ _ h hm
    · cases h
  · exact hK _ _ _ _ _ h hm
  · split at h
    · split at h
      · rename_i e
        exact ⟨fun _ => hK _ _ _ _ _ h hm, fun n => absurd e n⟩
      · rename_i e
        exact ⟨fun n => absurd n e, fun _ => hK _ _ _ _ _ h hm⟩
    · cases h
  · split at h
    · split at h
      · rename_i e
        refine ⟨e.1, ?_⟩
        rw [hm.2.1 _ e.2]
        exact hK _ _ _ _ _ h hm
      · cases h
    · cases h
  · split at h
    · split at h
      · split at h
        · split at h
          · rename_i e
            exact ⟨e, hK _ _ _ _ _ h (dn_put_ok hm e.2)⟩
          · cases h
        · split at h
          · rename_i e
            exact ⟨e, hK _ _ _ _ _ h (dn_put_ok hm e.2.1)⟩
          · cases h
        · cases h
      · cases h
    · split at h
      · split at h
        · rename_i e
          exact ⟨e, hK _ _ _ _ _ h (dn_put_ok hm e.2)⟩
        · cases h
      · cases h
    · cases h
  · split at h
    · split at h
      · rename_i e
        refine ⟨e.1, ?_⟩
        rw [hm.2.1 _ e.2]
        exact hK _ _ _ _ _ h hm
      · cases h
    · cases h
  · split at h
    · split at h
      · rename_i e
        exact ⟨e, hK _ _ _ _ _ h (dn_put_ok hm e.1.2)⟩
      · cases h
    · cases h
  · split at h
    · split at h
      · rename_i e
        exact ⟨⟨⟨Or.inr e.1.1, e.1.2⟩, e.2⟩, hK _ _ _ _ _ h (dn_put_ok hm e.1.2)⟩
      · cases h
    · cases h
  · split at h
    · rename_i e
      refine ⟨by rw [hm.1.1, hm.1.2]; exact e.1, ?_⟩
      rw [dn_nc_eq hm]
      exact hK _ _ _ _ _ h (dn_new_ok hm e.2.1 e.2.2)
    · cases h
  · split at h
    · split at h
      · rename_i e
        refine ⟨by rw [hm.1.1, hm.1.2]; exact e.1, ?_⟩
        rw [dn_nc_eq hm]
        exact hK _ _ _ _ _ h (dn_new_ok hm e.2.1 e.2.2)
      · cases h
    · cases h
  · split at h
    · split at h
      · rename_i e
        refine ⟨by rw [hm.1.1, hm.1.2]; exact e.1, ?_⟩
        rw [dn_nc_eq hm]
        exact hK _ _ _ _ _ h (dn_new_ok hm e.2.1 e.2.2)
      · cases h
    · cases h
  · split at h
    · cases h
      exact hQ _ hm
    · cases h
  · split at h
    · split at h
      · split at h
        · rename_i e
          show cw_G _ _ _ _ _ (bif Nat.ble (cw_cs _) 8 then _ else none)
          rw [e.1]
          exact ⟨e.2, hK _ _ _ _ _ h hm⟩
        · cases h
      · cases h
    · split at h
      · split at h
        · split at h
          · rename_i e
            split at h
            · rename_i hc
              show cw_G _ _ _ _ _ (bif Nat.ble (cw_cs _) 8 && Nat.ble (cw_cs _) y.toNat then _ else none)
              rw [e.1]
              exact ⟨e.2, hC _ _ _ _ _ _ _ hc hm (fun m' hm' => hK _ _ _ _ _ h hm')⟩
            · cases h
          · cases h
        · cases h
      · split at h
        · split at h
          · rename_i e
            split at h
            · rename_i hc
              show cw_G _ _ _ _ _ (bif Nat.ble (cw_cs _) 8 && Nat.ble (cw_cs _) y.toNat then _ else none)
              rw [e.1]
              exact ⟨e.2, hC _ _ _ _ _ _ _ hc hm (fun m' hm' => hK _ _ _ _ _ h hm')⟩
            · cases h
          · cases h
        · cases h
      · cases h
  · cases h
/-- so many steps -/
def dx_R : Nat → Nat → Nat → Nat → List cw_V → List cw_V → dn_D → Option dn_O
  | 0, _, _, _, _, _, _ => none
  | f + 1, d, y, pc, ls, st, D => match cw_cd y pc with
    | none => none
    | some q => dx_stp (fun pc ls st D => dx_R f d y pc ls st D) (fun z as D => match d with
      | 0 => none
      | d + 1 => dx_R f d z 0 (cw_en as (cw_ml z)) [] D) q ls st D
theorem dx_ok {B : cw_M} : ∀ (f : Nat) {d y pc : Nat} {ls st : List cw_V} {D D' : dn_D} {r : Option cw_V} {m : cw_M} {Q : Option cw_V → cw_M → Prop}, dx_R f d y pc ls st D = some (r, D') → dn_r B D m → (∀ m', dn_r B D' m' → Q r m') → cw_R d y pc ls st m Q := by
  intro f
  induction f with
  | zero => intro d y pc ls st D D' r m Q h; cases h
  | succ f ih =>
    intro d y pc ls st D D' r m Q h hm hQ
    refine cw_R_step ?_
    unfold dx_R at h
    unfold cw_S
    split at h
    · cases h
    · rename_i q hq
      rw [hq]
      refine dx_stp_ok h hm (fun pc ls st D m h hm => ih h hm hQ) (fun z as D m r1 D1 R h hm hR => ?_) hQ
      match d, h with
      | d + 1, h => exact ih h hm hR
