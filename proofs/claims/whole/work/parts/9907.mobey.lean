/-! Orders are run: pure, and by the reference (wip/whole/tools/m107.py). -/
def o_c (K : Int → Int) (h x y : Int) : Int := if h = 0 then mk_c K x y else if h = 1 then tn_c K x y else if h = 2 then di_c K x else pa_c K
def o_k (K : Int → Int) (h x y : Int) : Int → Int := if h = 0 then cw_up K x y else if h = 1 then cw_up K (6 + x) y else if h = 2 then cw_up K (12 + x) 0 else cw_up K 18 (K 18 + 1)
/-- what the words of orders tell -/
noncomputable def o_E (K : Int → Int) (dn lt : Int) : Int → Int := fun i => if i = 0 then K 18 else if i = 1 then dn else if i = 2 then lt else if i = 3 then ((R_K K).length : Int) else if i = 4 then l_vn K else if i < 11 then (if 0 ≤ i - 5 ∧ i - 5 < K 46 - 1 then K (i - 5) else -1) else (if 0 ≤ i - 11 ∧ i - 11 < K 46 - 1 then K (6 + (i - 11)) else -1)
/-- a deed: what, where, and what was kept before -/
abbrev o_D : Type := Int × Int × (Int → Int)
abbrev o_S : Type := (Int → Int) × List o_D × Int × Int
def s_ml (x : Int) : Int := if 0 ≤ x ∧ x ≤ 1000000 then x else -1
/-- once -/
noncomputable def o_1 (k : p_K) (s : o_S) : Option o_S := @ite _ (k_hd k.2.2.2.2 (o_E s.1 s.2.2.1 s.2.2.2)) (Classical.propDecidable _) (if (k.1 ≤ 2 ∧ k.2.1 (o_E s.1 s.2.2.1 s.2.2.2) = none) ∨ (k.1 ≤ 1 ∧ k.2.2.1 (o_E s.1 s.2.2.1 s.2.2.2) = none) then none else if o_c s.1 k.1 (s_ml ((k.2.1 (o_E s.1 s.2.2.1 s.2.2.2)).getD 0)) (s_ml ((k.2.2.1 (o_E s.1 s.2.2.1 s.2.2.2)).getD 0)) < 0 then none else some (o_k s.1 k.1 (s_ml ((k.2.1 (o_E s.1 s.2.2.1 s.2.2.2)).getD 0)) (s_ml ((k.2.2.1 (o_E s.1 s.2.2.1 s.2.2.2)).getD 0)), s.2.1 ++ [(k.1, s_ml ((k.2.1 (o_E s.1 s.2.2.1 s.2.2.2)).getD 0), s.1)], s.2.2.1 + 1, if k.1 = 0 then ((R_K (o_k s.1 k.1 (s_ml ((k.2.1 (o_E s.1 s.2.2.1 s.2.2.2)).getD 0)) (s_ml ((k.2.2.1 (o_E s.1 s.2.2.1 s.2.2.2)).getD 0)))).length : Int) else s.2.2.2)) (some s)
noncomputable def o_t (k : p_K) : Nat → o_S → Option o_S
  | 0, s => some s
  | n + 1, s => match o_1 k s with
    | none => none
    | some s' => o_t k n s'
noncomputable def o_l : List p_K → Int → o_S → Except Int o_S
  | [], _, s => .ok s
  | k :: t, i, s => match o_t k k.2.2.2.1.toNat s with
    | none => .error i
    | some s' => o_l t (i + 1) s'
theorem o_cr {K : Int → Int} {h x y : Int} : -3 ≤ o_c K h x y ∧ o_c K h x y ≤ 0 := by
  unfold o_c
  have a := mk_cr (K := K) (j := x) (x := y)
  have b := tn_cr (K := K) (j := x) (x := y)
  have c := di_cr (K := K) (p := x)
  have d := pa_cr (K := K)
  (repeat' split) <;> omega
/-- the reference's row of what can be undone behind deeds -/
def d_L : List o_D → (Int → Int) → Int → (Int → Int) × Int
  | [], L, un => (L, un)
  | e :: t, L, un => d_L t (kp_l L un e.2.2 e.1) (kp_n un + 1)
theorem d_La {D : List o_D} {e : o_D} : ∀ {L : Int → Int} {un : Int}, d_L (D ++ [e]) L un = (kp_l (d_L D L un).1 (d_L D L un).2 e.2.2 e.1, kp_n (d_L D L un).2 + 1) := by
  induction D with
  | nil => intro L un; rfl
  | cons a t ih => intro L un; exact ih
theorem kp_nr {un : Int} (h : 0 ≤ un ∧ un ≤ 16) : 0 ≤ kp_n un + 1 ∧ kp_n un + 1 ≤ 16 := by unfold kp_n; split <;> omega
def P_C : List Int := [m_low_, m_high_, m_marks_, m_treeOf_, m_asked_, m_would_, m_got_, m_bestMarks_, m_givesSo_, m_parts_, m_sums_]
def P_F : List Int := [22, 23, 24, 25, 27, 28, 32, 35, 38, 46, 47, 48, 49, 50]
def P_s (m M : cw_M) : Prop := (∀ c, c ∉ P_C → c ≠ m_ → M c = m c) ∧ ∀ j, j ∉ P_F → M m_ j = m m_ j
theorem P_sr {m : cw_M} : P_s m m := ⟨fun _ _ _ => rfl, fun _ _ => rfl⟩
theorem P_st {m m1 m2 : cw_M} (h : P_s m m1) (h2 : P_s m1 m2) : P_s m m2 := ⟨fun c a b => by rw [h2.1 c a b, h.1 c a b], fun j a => by rw [h2.2 j a, h.2 j a]⟩
theorem P_sS {m M : cw_M} (h : S_f m M) : P_s m M := ⟨fun c a b => h.1 c (U_n a (by decide)) (U_n a (by decide)) (U_n a (by decide)) (U_n a (by decide)) (U_n a (by decide)) (U_n a (by decide)) (U_n a (by decide)) (U_n a (by decide)) (U_n a (by decide)) (U_n a (by decide)) b, fun j a => h.2 j (U_n a (by decide)) (U_n a (by decide)) (U_n a (by decide)) (U_n a (by decide)) (U_n a (by decide)) (U_n a (by decide)) (U_n a (by decide))⟩
theorem P_sZ {m M : cw_M} (h : Z_B m M) : P_s m M := ⟨fun c a b => h.1 c (U_n a (by decide)) (U_n a (by decide)) (U_n a (by decide)) (U_n a (by decide)) (U_n a (by decide)) b, fun j a => h.2 j (U_n a (by decide)) (U_n a (by decide)) (U_n a (by decide)) (U_n a (by decide)) (U_n a (by decide)) (U_n a (by decide)) (U_n a (by decide)) (U_n a (by decide)) (U_n a (by decide)) (U_n a (by decide))⟩
theorem P_sU {m M : cw_M} (h : P_s m M) : U_s m M := ⟨fun c a b => h.1 c (fun q => a ((show ∀ x ∈ P_C, x ∈ U_C by decide) c q)) b, fun j a => h.2 j (fun q => a ((show ∀ x ∈ P_F, x ∈ U_F by decide) j q))⟩
theorem P_s28 {m : cw_M} {v : Int} : P_s m (cw_put m m_ 28 v) := ⟨fun c a b => cw_put_ne b, fun j a => cw_put_off (U_n a (by decide))⟩
def st_m (m : cw_M) (K L : Int → Int) (un : Int) : cw_M := cw_put (ml_m (kr_m m K) L) m_ 44 un
theorem st_k {m : cw_M} {K L : Int → Int} {un : Int} : st_m m K L un m_kept_ = K := rfl
theorem st_l {m : cw_M} {K L : Int → Int} {un : Int} : st_m m K L un m_left0_ = L := rfl
theorem st_u {m : cw_M} {K L : Int → Int} {un : Int} : st_m m K L un m_ 44 = un := rfl
theorem st_ne {m : cw_M} {K L : Int → Int} {un c : Int} (h1 : c ≠ m_kept_) (h2 : c ≠ m_left0_) (h3 : c ≠ m_) : st_m m K L un c = m c := by
  unfold st_m ml_m kr_m; rw [cw_put_ne h3, cw_row_ne h2, cw_row_ne h1]
theorem st_f {m : cw_M} {K L : Int → Int} {un j : Int} (h : j ≠ 44) : st_m m K L un m_ j = m m_ j := by
  unfold st_m ml_m kr_m; rw [cw_put_off h, cw_row_ne (by decide), cw_row_ne (by decide)]
theorem st_op {m X : cw_M} {K L K' : Int → Int} {un h : Int} (hU : P_s (st_m m K L un) X) : P_s (st_m m K' (kp_l L un K h) (kp_n un + 1)) (kr_m (kp_m X h) K') := by
  have ek : X m_kept_ = K := hU.1 _ (by decide) (by decide)
  have el : X m_left0_ = L := hU.1 _ (by decide) (by decide)
  have eu : X m_ 44 = un := hU.2 _ (by decide)
  refine ⟨fun c a b => ?_, fun j a => ?_⟩
  · by_cases e : c = m_kept_
    · rw [e, st_k]; exact kr_k
    by_cases e2 : c = m_left0_
    · rw [e2, st_l, ← el, ← eu, ← ek]; rfl
    rw [st_ne e e2 b]
    unfold kr_m kp_m
    rw [cw_row_ne e, cw_put_ne b, cw_row_ne e2, hU.1 c a b, st_ne e e2 b]
  · by_cases e : j = 44
    · rw [e, st_u, ← eu]; rfl
    rw [st_f e]
    unfold kr_m kp_m
    rw [cw_row_ne (by decide), cw_put_off e, cw_row_ne (by decide), hU.2 j a, st_f e]
/-- the memory stands as the run does -/
def S_R (X m : cw_M) (L0 : Int → Int) (u0 : Int) (s : o_S) : Prop := la_ok X ∧ P_s (st_m m s.1 (d_L s.2.1 L0 u0).1 (d_L s.2.1 L0 u0).2) X ∧ X m_ 27 = s.2.2.1 ∧ X m_ 28 = s.2.2.2 ∧ 0 ≤ (d_L s.2.1 L0 u0).2 ∧ (d_L s.2.1 L0 u0).2 ≤ 16
theorem M_smallS {d : Nat} {m : cw_M} {Q : Option cw_V → cw_M → Prop} {v : Int} (hm : la_ok m) (h : Q (some (vi (s_ml v))) m) : cw_C d k_M_small [vl v] m Q := by
  unfold s_ml at h
  refine M_small hm (fun a b => ?_) (fun a => ?_)
  · rw [if_pos ⟨a, b⟩] at h; exact h
  · rw [if_neg a] at h; exact h
theorem M_obeys0 {d : Nat} {m : cw_M} {Q : Option cw_V → cw_M → Prop} (hm : la_ok m) (hc : ∀ j, 0 ≤ j → j < 7 → m m_catalan_ j = t_c j) (hn : 0 ≤ m m_kept_ 46 ∧ m m_kept_ 46 ≤ 7) (hun : 0 ≤ m m_ 44 ∧ m m_ 44 ≤ 16) (hlv : ∀ p, 0 ≤ p → p < 6 → m m_kept_ (12 + p) = 0 ∨ m m_kept_ (12 + p) = 1) (hkd : ∀ i, 0 ≤ i → i < 6 → 0 ≤ m m_kept_ (6 + i) ∧ m m_kept_ (6 + i) ≤ 2) (hy : 0 ≤ m m_kept_ 18 ∧ m m_kept_ 18 ≤ 999) {hh : Int} (h48 : m m_ 48 = 20) (hhh : hh = 0) (h1 : o_c (m m_kept_) hh (s_ml (m m_sums_ 0)) (s_ml (m m_sums_ 1)) = 0 → ∀ M v, la_ok M → 0 ≤ v → P_s (kr_m (kp_m m hh) (o_k (m m_kept_) hh (s_ml (m m_sums_ 0)) (s_ml (m m_sums_ 1)))) M → M m_ 27 = m m_ 27 → M m_ 46 = m m_ 46 → M m_ 28 = (if hh = 0 then ((R_K (o_k (m m_kept_) hh (s_ml (m m_sums_ 0)) (s_ml (m m_sums_ 1)))).length : Int) else m m_ 28) → Q (some (vi v)) M) (h0 : o_c (m m_kept_) hh (s_ml (m m_sums_ 0)) (s_ml (m m_sums_ 1)) < 0 → ∀ M v, v < 0 → la_ok M → P_s m M → Q (some (vi v)) M) : cw_C (d + 11) k_M_obeys [vr m_] m Q := by
  refine la_go_C hm 11 [14] ?_
  refine And.intro (show 0 ≤ 0 ∧ 0 < 2 by omega) ?_
  show cw_C _ _ [vl (m m_sums_ 0)] (m) _
  refine M_smallS hm ⟨hm, ?_⟩
  show cw_R _ _ 14 [vr m_, vi (s_ml (m m_sums_ 0)), none] [vi (m m_ 48)] (m) _
  refine la_ts rfl ?_
  rw [h48]
  show cw_R _ _ 70 _ _ _ _
  refine la_go_R hm 21 [] ?_
  refine And.intro (show 0 ≤ 1 ∧ 1 < 2 by omega) ?_
  show cw_C _ _ [vl (m m_sums_ 1)] (m) _
  refine M_smallS hm ⟨hm, ?_⟩
  show cw_C _ _ [vr m_, vi (s_ml (m m_sums_ 0)), vi (s_ml (m m_sums_ 1))] (m) _
  refine M_marksKept hm hc hn hun (fun (e1 : mk_c (m m_kept_) (s_ml (m m_sums_ 0)) (s_ml (m m_sums_ 1)) = 0) (M : cw_M) (hM : la_ok M) (hS : S_f (kr_m (kp_m m 0) (cw_up (m m_kept_) (s_ml (m m_sums_ 0)) (s_ml (m m_sums_ 1)))) M) => ⟨hM, ?_⟩) (fun (e0 : mk_c (m m_kept_) (s_ml (m m_sums_ 0)) (s_ml (m m_sums_ 1)) < 0) => ⟨hm, ?_⟩)
  · refine And.intro (fun (c21 : 0 ≤ ((R_K (cw_up (m m_kept_) (s_ml (m m_sums_ 0)) (s_ml (m m_sums_ 1)))).length : Int)) => ?_) (fun (c21 : ¬ (0 ≤ ((R_K (cw_up (m m_kept_) (s_ml (m m_sums_ 0)) (s_ml (m m_sums_ 1)))).length : Int))) => ?_)
    · have hm22 : la_ok (cw_put M m_ 28 ((R_K (cw_up (m m_kept_) (s_ml (m m_sums_ 0)) (s_ml (m m_sums_ 1)))).length : Int)) := la_put hM (by decide) (Or.inl rfl)
      show Q (some (vi ((R_K (cw_up (m m_kept_) (s_ml (m m_sums_ 0)) (s_ml (m m_sums_ 1)))).length : Int))) (cw_put M m_ 28 ((R_K (cw_up (m m_kept_) (s_ml (m m_sums_ 0)) (s_ml (m m_sums_ 1)))).length : Int))
      have eo : o_c (m m_kept_) hh (s_ml (m m_sums_ 0)) (s_ml (m m_sums_ 1)) = mk_c (m m_kept_) (s_ml (m m_sums_ 0)) (s_ml (m m_sums_ 1)) := by unfold o_c; rw [if_pos (by omega)]
      have ek : o_k (m m_kept_) hh (s_ml (m m_sums_ 0)) (s_ml (m m_sums_ 1)) = cw_up (m m_kept_) (s_ml (m m_sums_ 0)) (s_ml (m m_sums_ 1)) := by unfold o_k; rw [if_pos (by omega)]
      have eh : hh = 0 := by omega
      refine h1 (by omega) _ _ hm22 (by omega) (P_st (by rw [ek, eh]; exact P_sS hS) P_s28) ?_ ?_ ?_
      · rw [cw_put_off (by decide), hS.2 27 (by decide) (by decide) (by decide) (by decide) (by decide) (by decide) (by decide)]; rfl
      · rw [cw_put_off (by decide), hS.2 46 (by decide) (by decide) (by decide) (by decide) (by decide) (by decide) (by decide)]; rfl
      · rw [cw_put_eq, if_pos eh, ek]
    · have hm23 : la_ok (cw_put M m_ 28 (M m_ 28)) := la_put hM (by decide) (Or.inl rfl)
      show Q (some (vi ((R_K (cw_up (m m_kept_) (s_ml (m m_sums_ 0)) (s_ml (m m_sums_ 1)))).length : Int))) (cw_put M m_ 28 (M m_ 28))
      exfalso; omega
  · refine And.intro (fun (c24 : 0 ≤ mk_c (m m_kept_) (s_ml (m m_sums_ 0)) (s_ml (m m_sums_ 1))) => ?_) (fun (c24 : ¬ (0 ≤ mk_c (m m_kept_) (s_ml (m m_sums_ 0)) (s_ml (m m_sums_ 1)))) => ?_)
    · have hm25 : la_ok (cw_put m m_ 28 (mk_c (m m_kept_) (s_ml (m m_sums_ 0)) (s_ml (m m_sums_ 1)))) := la_put hm (by decide) (Or.inl rfl)
      show Q (some (vi (mk_c (m m_kept_) (s_ml (m m_sums_ 0)) (s_ml (m m_sums_ 1))))) (cw_put m m_ 28 (mk_c (m m_kept_) (s_ml (m m_sums_ 0)) (s_ml (m m_sums_ 1))))
      exfalso; omega
    · have hm26 : la_ok (cw_put m m_ 28 (m m_ 28)) := la_put hm (by decide) (Or.inl rfl)
      show Q (some (vi (mk_c (m m_kept_) (s_ml (m m_sums_ 0)) (s_ml (m m_sums_ 1))))) (cw_put m m_ 28 (m m_ 28))
      have eo : o_c (m m_kept_) hh (s_ml (m m_sums_ 0)) (s_ml (m m_sums_ 1)) = mk_c (m m_kept_) (s_ml (m m_sums_ 0)) (s_ml (m m_sums_ 1)) := by unfold o_c; rw [if_pos (by omega)]
      have ek : o_k (m m_kept_) hh (s_ml (m m_sums_ 0)) (s_ml (m m_sums_ 1)) = cw_up (m m_kept_) (s_ml (m m_sums_ 0)) (s_ml (m m_sums_ 1)) := by unfold o_k; rw [if_pos (by omega)]
      exact h0 (by omega) _ _ e0 hm26 (by exact P_s28)
theorem M_obeys1 {d : Nat} {m : cw_M} {Q : Option cw_V → cw_M → Prop} (hm : la_ok m) (hc : ∀ j, 0 ≤ j → j < 7 → m m_catalan_ j = t_c j) (hn : 0 ≤ m m_kept_ 46 ∧ m m_kept_ 46 ≤ 7) (hun : 0 ≤ m m_ 44 ∧ m m_ 44 ≤ 16) (hlv : ∀ p, 0 ≤ p → p < 6 → m m_kept_ (12 + p) = 0 ∨ m m_kept_ (12 + p) = 1) (hkd : ∀ i, 0 ≤ i → i < 6 → 0 ≤ m m_kept_ (6 + i) ∧ m m_kept_ (6 + i) ≤ 2) (hy : 0 ≤ m m_kept_ 18 ∧ m m_kept_ 18 ≤ 999) {hh : Int} (h48 : m m_ 48 = 23) (hhh : hh = 1) (h1 : o_c (m m_kept_) hh (s_ml (m m_sums_ 0)) (s_ml (m m_sums_ 1)) = 0 → ∀ M v, la_ok M → 0 ≤ v → P_s (kr_m (kp_m m hh) (o_k (m m_kept_) hh (s_ml (m m_sums_ 0)) (s_ml (m m_sums_ 1)))) M → M m_ 27 = m m_ 27 → M m_ 46 = m m_ 46 → M m_ 28 = (if hh = 0 then ((R_K (o_k (m m_kept_) hh (s_ml (m m_sums_ 0)) (s_ml (m m_sums_ 1)))).length : Int) else m m_ 28) → Q (some (vi v)) M) (h0 : o_c (m m_kept_) hh (s_ml (m m_sums_ 0)) (s_ml (m m_sums_ 1)) < 0 → ∀ M v, v < 0 → la_ok M → P_s m M → Q (some (vi v)) M) : cw_C (d + 11) k_M_obeys [vr m_] m Q := by
  refine la_go_C hm 11 [14] ?_
  refine And.intro (show 0 ≤ 0 ∧ 0 < 2 by omega) ?_
  show cw_C _ _ [vl (m m_sums_ 0)] (m) _
  refine M_smallS hm ⟨hm, ?_⟩
  show cw_R _ _ 14 [vr m_, vi (s_ml (m m_sums_ 0)), none] [vi (m m_ 48)] (m) _
  refine la_ts rfl ?_
  rw [h48]
  show cw_R _ _ 44 _ _ _ _
  refine la_go_R hm 12 [] ?_
  refine And.intro (show 0 ≤ 1 ∧ 1 < 2 by omega) ?_
  show cw_C _ _ [vl (m m_sums_ 1)] (m) _
  refine M_smallS hm ⟨hm, ?_⟩
  show cw_C _ _ [vr m_, vi (s_ml (m m_sums_ 0)), vi (s_ml (m m_sums_ 1))] (m) _
  refine M_turnsKept hm hn hun (fun (e1 : tn_c (m m_kept_) (s_ml (m m_sums_ 0)) (s_ml (m m_sums_ 1)) = 0) => ⟨(kr_ok (kp_ok hm)), ?_⟩) (fun (e0 : tn_c (m m_kept_) (s_ml (m m_sums_ 0)) (s_ml (m m_sums_ 1)) < 0) => ⟨hm, ?_⟩)
  · show Q (some (vi (m m_kept_ (6 + (s_ml (m m_sums_ 0)))))) (kr_m (kp_m m 1) (cw_up (m m_kept_) (6 + (s_ml (m m_sums_ 0))) (s_ml (m m_sums_ 1))))
    have eo : o_c (m m_kept_) hh (s_ml (m m_sums_ 0)) (s_ml (m m_sums_ 1)) = tn_c (m m_kept_) (s_ml (m m_sums_ 0)) (s_ml (m m_sums_ 1)) := by unfold o_c; rw [if_neg (by omega), if_pos (by omega)]
    have ek : o_k (m m_kept_) hh (s_ml (m m_sums_ 0)) (s_ml (m m_sums_ 1)) = cw_up (m m_kept_) (6 + (s_ml (m m_sums_ 0))) (s_ml (m m_sums_ 1)) := by unfold o_k; rw [if_neg (by omega), if_pos (by omega)]
    have eh : hh = 1 := by omega
    refine h1 (by omega) _ _ (kr_ok (kp_ok hm)) (by have z := e1; unfold tn_c at z; by_cases q : 0 ≤ (s_ml (m m_sums_ 0)) ∧ (s_ml (m m_sums_ 0)) < m m_kept_ 46 - 1; exact (hkd _ q.1 (by omega)).1; exfalso; revert z; (repeat' split) <;> omega) (by rw [ek, eh]; exact P_sr) rfl rfl (by rw [if_neg (by omega)]; rfl)
  · show Q (some (vi (tn_c (m m_kept_) (s_ml (m m_sums_ 0)) (s_ml (m m_sums_ 1))))) (m)
    have eo : o_c (m m_kept_) hh (s_ml (m m_sums_ 0)) (s_ml (m m_sums_ 1)) = tn_c (m m_kept_) (s_ml (m m_sums_ 0)) (s_ml (m m_sums_ 1)) := by unfold o_c; rw [if_neg (by omega), if_pos (by omega)]
    have ek : o_k (m m_kept_) hh (s_ml (m m_sums_ 0)) (s_ml (m m_sums_ 1)) = cw_up (m m_kept_) (6 + (s_ml (m m_sums_ 0))) (s_ml (m m_sums_ 1)) := by unfold o_k; rw [if_neg (by omega), if_pos (by omega)]
    exact h0 (by omega) _ _ e0 hm (by exact P_sr)
theorem M_obeys2 {d : Nat} {m : cw_M} {Q : Option cw_V → cw_M → Prop} (hm : la_ok m) (hc : ∀ j, 0 ≤ j → j < 7 → m m_catalan_ j = t_c j) (hn : 0 ≤ m m_kept_ 46 ∧ m m_kept_ 46 ≤ 7) (hun : 0 ≤ m m_ 44 ∧ m m_ 44 ≤ 16) (hlv : ∀ p, 0 ≤ p → p < 6 → m m_kept_ (12 + p) = 0 ∨ m m_kept_ (12 + p) = 1) (hkd : ∀ i, 0 ≤ i → i < 6 → 0 ≤ m m_kept_ (6 + i) ∧ m m_kept_ (6 + i) ≤ 2) (hy : 0 ≤ m m_kept_ 18 ∧ m m_kept_ 18 ≤ 999) {hh : Int} (h48 : m m_ 48 = 25) (hhh : hh = 2) (h1 : o_c (m m_kept_) hh (s_ml (m m_sums_ 0)) (s_ml (m m_sums_ 1)) = 0 → ∀ M v, la_ok M → 0 ≤ v → P_s (kr_m (kp_m m hh) (o_k (m m_kept_) hh (s_ml (m m_sums_ 0)) (s_ml (m m_sums_ 1)))) M → M m_ 27 = m m_ 27 → M m_ 46 = m m_ 46 → M m_ 28 = (if hh = 0 then ((R_K (o_k (m m_kept_) hh (s_ml (m m_sums_ 0)) (s_ml (m m_sums_ 1)))).length : Int) else m m_ 28) → Q (some (vi v)) M) (h0 : o_c (m m_kept_) hh (s_ml (m m_sums_ 0)) (s_ml (m m_sums_ 1)) < 0 → ∀ M v, v < 0 → la_ok M → P_s m M → Q (some (vi v)) M) : cw_C (d + 11) k_M_obeys [vr m_] m Q := by
  refine la_go_C hm 11 [14] ?_
  refine And.intro (show 0 ≤ 0 ∧ 0 < 2 by omega) ?_
  show cw_C _ _ [vl (m m_sums_ 0)] (m) _
  refine M_smallS hm ⟨hm, ?_⟩
  show cw_R _ _ 14 [vr m_, vi (s_ml (m m_sums_ 0)), none] [vi (m m_ 48)] (m) _
  refine la_ts rfl ?_
  rw [h48]
  show cw_R _ _ 59 _ _ _ _
  refine la_go_R hm 7 [] ?_
  show cw_C _ _ [vr m_, vi (s_ml (m m_sums_ 0))] (m) _
  refine M_diesKept hm hun hlv (fun (e1 : di_c (m m_kept_) (s_ml (m m_sums_ 0)) = 0) => ⟨(kr_ok (kp_ok hm)), ?_⟩) (fun (e0 : di_c (m m_kept_) (s_ml (m m_sums_ 0)) < 0) => ⟨hm, ?_⟩)
  · show Q (some (vi (l_vn (cw_up (m m_kept_) (12 + (s_ml (m m_sums_ 0))) 0)))) (kr_m (kp_m m 2) (cw_up (m m_kept_) (12 + (s_ml (m m_sums_ 0))) 0))
    have eo : o_c (m m_kept_) hh (s_ml (m m_sums_ 0)) (s_ml (m m_sums_ 1)) = di_c (m m_kept_) (s_ml (m m_sums_ 0)) := by unfold o_c; rw [if_neg (by omega), if_neg (by omega), if_pos (by omega)]
    have ek : o_k (m m_kept_) hh (s_ml (m m_sums_ 0)) (s_ml (m m_sums_ 1)) = cw_up (m m_kept_) (12 + (s_ml (m m_sums_ 0))) 0 := by unfold o_k; rw [if_neg (by omega), if_neg (by omega), if_pos (by omega)]
    have eh : hh = 2 := by omega
    refine h1 (by omega) _ _ (kr_ok (kp_ok hm)) (by exact (l_vnu hlv (Or.inl rfl)).1) (by rw [ek, eh]; exact P_sr) rfl rfl (by rw [if_neg (by omega)]; rfl)
  · show Q (some (vi (di_c (m m_kept_) (s_ml (m m_sums_ 0))))) (m)
    have eo : o_c (m m_kept_) hh (s_ml (m m_sums_ 0)) (s_ml (m m_sums_ 1)) = di_c (m m_kept_) (s_ml (m m_sums_ 0)) := by unfold o_c; rw [if_neg (by omega), if_neg (by omega), if_pos (by omega)]
    have ek : o_k (m m_kept_) hh (s_ml (m m_sums_ 0)) (s_ml (m m_sums_ 1)) = cw_up (m m_kept_) (12 + (s_ml (m m_sums_ 0))) 0 := by unfold o_k; rw [if_neg (by omega), if_neg (by omega), if_pos (by omega)]
    exact h0 (by omega) _ _ e0 hm (by exact P_sr)
theorem M_obeys3 {d : Nat} {m : cw_M} {Q : Option cw_V → cw_M → Prop} (hm : la_ok m) (hc : ∀ j, 0 ≤ j → j < 7 → m m_catalan_ j = t_c j) (hn : 0 ≤ m m_kept_ 46 ∧ m m_kept_ 46 ≤ 7) (hun : 0 ≤ m m_ 44 ∧ m m_ 44 ≤ 16) (hlv : ∀ p, 0 ≤ p → p < 6 → m m_kept_ (12 + p) = 0 ∨ m m_kept_ (12 + p) = 1) (hkd : ∀ i, 0 ≤ i → i < 6 → 0 ≤ m m_kept_ (6 + i) ∧ m m_kept_ (6 + i) ≤ 2) (hy : 0 ≤ m m_kept_ 18 ∧ m m_kept_ 18 ≤ 999) {hh : Int} (h48 : m m_ 48 = 26) (hhh : hh = 3) (h1 : o_c (m m_kept_) hh (s_ml (m m_sums_ 0)) (s_ml (m m_sums_ 1)) = 0 → ∀ M v, la_ok M → 0 ≤ v → P_s (kr_m (kp_m m hh) (o_k (m m_kept_) hh (s_ml (m m_sums_ 0)) (s_ml (m m_sums_ 1)))) M → M m_ 27 = m m_ 27 → M m_ 46 = m m_ 46 → M m_ 28 = (if hh = 0 then ((R_K (o_k (m m_kept_) hh (s_ml (m m_sums_ 0)) (s_ml (m m_sums_ 1)))).length : Int) else m m_ 28) → Q (some (vi v)) M) (h0 : o_c (m m_kept_) hh (s_ml (m m_sums_ 0)) (s_ml (m m_sums_ 1)) < 0 → ∀ M v, v < 0 → la_ok M → P_s m M → Q (some (vi v)) M) : cw_C (d + 11) k_M_obeys [vr m_] m Q := by
  refine la_go_C hm 11 [14] ?_
  refine And.intro (show 0 ≤ 0 ∧ 0 < 2 by omega) ?_
  show cw_C _ _ [vl (m m_sums_ 0)] (m) _
  refine M_smallS hm ⟨hm, ?_⟩
  show cw_R _ _ 14 [vr m_, vi (s_ml (m m_sums_ 0)), none] [vi (m m_ 48)] (m) _
  refine la_ts rfl ?_
  rw [h48]
  show cw_R _ _ 65 _ _ _ _
  refine la_go_R hm 6 [] ?_
  show cw_C _ _ [vr m_] (m) _
  refine M_passesKept hm hun hy (fun (e1 : pa_c (m m_kept_) = 0) => ⟨(kr_ok (kp_ok hm)), ?_⟩) (fun (e0 : pa_c (m m_kept_) < 0) => ⟨hm, ?_⟩)
  · show Q (some (vi (m m_kept_ 18 + 1))) (kr_m (kp_m m 3) (cw_up (m m_kept_) 18 (m m_kept_ 18 + 1)))
    have eo : o_c (m m_kept_) hh (s_ml (m m_sums_ 0)) (s_ml (m m_sums_ 1)) = pa_c (m m_kept_) := by unfold o_c; rw [if_neg (by omega), if_neg (by omega), if_neg (by omega)]
    have ek : o_k (m m_kept_) hh (s_ml (m m_sums_ 0)) (s_ml (m m_sums_ 1)) = cw_up (m m_kept_) 18 (m m_kept_ 18 + 1) := by unfold o_k; rw [if_neg (by omega), if_neg (by omega), if_neg (by omega)]
    have eh : hh = 3 := by omega
    refine h1 (by omega) _ _ (kr_ok (kp_ok hm)) (by omega) (by rw [ek, eh]; exact P_sr) rfl rfl (by rw [if_neg (by omega)]; rfl)
  · show Q (some (vi (pa_c (m m_kept_)))) (m)
    have eo : o_c (m m_kept_) hh (s_ml (m m_sums_ 0)) (s_ml (m m_sums_ 1)) = pa_c (m m_kept_) := by unfold o_c; rw [if_neg (by omega), if_neg (by omega), if_neg (by omega)]
    have ek : o_k (m m_kept_) hh (s_ml (m m_sums_ 0)) (s_ml (m m_sums_ 1)) = cw_up (m m_kept_) 18 (m m_kept_ 18 + 1) := by unfold o_k; rw [if_neg (by omega), if_neg (by omega), if_neg (by omega)]
    exact h0 (by omega) _ _ e0 hm (by exact P_sr)
