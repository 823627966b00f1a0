def y_o (m : cw_M) (sm : Int → Int) (go ge bk io ho hd sa ti : Int) : cw_M := fun c => if c = m_sums_ then sm else if c = m_ then (fun j => if j = 22 then go else if j = 23 then ge else if j = 24 then bk else if j = 25 then io else if j = 47 then ho else if j = 48 then hd else if j = 49 then sa else if j = 50 then ti else m m_ j) else m c
theorem y_o_ne {m : cw_M} {sm : Int → Int} {go ge bk io ho hd sa ti : Int} {c : Int} (h0 : c ≠ m_sums_) (h1 : c ≠ m_) : y_o m sm go ge bk io ho hd sa ti c = m c := by
  unfold y_o; rw [if_neg h0, if_neg h1]
theorem y_o_sm {m : cw_M} {sm : Int → Int} {go ge bk io ho hd sa ti : Int} : y_o m sm go ge bk io ho hd sa ti m_sums_ = sm := rfl
theorem y_o_om_ {m : cw_M} {sm : Int → Int} {go ge bk io ho hd sa ti : Int} {j : Int} (h0 : j ≠ 22) (h1 : j ≠ 23) (h2 : j ≠ 24) (h3 : j ≠ 25) (h4 : j ≠ 47) (h5 : j ≠ 48) (h6 : j ≠ 49) (h7 : j ≠ 50) : y_o m sm go ge bk io ho hd sa ti m_ j = m m_ j := by
  show (if j = 22 then go else if j = 23 then ge else if j = 24 then bk else if j = 25 then io else if j = 47 then ho else if j = 48 then hd else if j = 49 then sa else if j = 50 then ti else m m_ j) = _
  rw [if_neg h0, if_neg h1, if_neg h2, if_neg h3, if_neg h4, if_neg h5, if_neg h6, if_neg h7]
theorem y_o_ok {m : cw_M} {sm : Int → Int} {go ge bk io ho hd sa ti : Int} (hm : la_ok m) : la_ok (y_o m sm go ge bk io ho hd sa ti) := by
  refine ⟨by rw [y_o_ne (by decide) (by decide)]; exact hm.1, fun e he => ?_⟩
  obtain ⟨z1, h2, -, z4⟩ := la_lok e he
  have n0 : e.1 ≠ m_sums_ := fun q => by rw [q] at h2; revert h2; decide
  by_cases q0 : e.1 = m_
  · rw [q0, y_o_om_ (fun q => by rw [q0, q] at z4; cases z4) (fun q => by rw [q0, q] at z4; cases z4) (fun q => by rw [q0, q] at z4; cases z4) (fun q => by rw [q0, q] at z4; cases z4) (fun q => by rw [q0, q] at z4; cases z4) (fun q => by rw [q0, q] at z4; cases z4) (fun q => by rw [q0, q] at z4; cases z4) (fun q => by rw [q0, q] at z4; cases z4), ← q0]; exact hm.2 e he
  rw [y_o_ne n0 q0]; exact hm.2 e he
theorem y_o_x {m M : cw_M} {sm : Int → Int} {go ge bk io ho hd sa ti : Int} (r0 : M m_sums_ = sm) (f0 : M m_ 22 = go) (f1 : M m_ 23 = ge) (f2 : M m_ 24 = bk) (f3 : M m_ 25 = io) (f4 : M m_ 47 = ho) (f5 : M m_ 48 = hd) (f6 : M m_ 49 = sa) (f7 : M m_ 50 = ti) (o0 : ∀ j, j ≠ 22 → j ≠ 23 → j ≠ 24 → j ≠ 25 → j ≠ 47 → j ≠ 48 → j ≠ 49 → j ≠ 50 → M m_ j = m m_ j) (h : ∀ c, c ≠ m_sums_ → c ≠ m_ → M c = m c) : M = y_o m sm go ge bk io ho hd sa ti := by
  funext c
  by_cases h0 : c = m_sums_
  · rw [h0, r0]; rfl
  by_cases h1 : c = m_
  · funext j
    rw [h1]
    by_cases z0 : j = 22
    · rw [z0, f0]; rfl
    by_cases z1 : j = 23
    · rw [z1, f1]; rfl
    by_cases z2 : j = 24
    · rw [z2, f2]; rfl
    by_cases z3 : j = 25
    · rw [z3, f3]; rfl
    by_cases z4 : j = 47
    · rw [z4, f4]; rfl
    by_cases z5 : j = 48
    · rw [z5, f5]; rfl
    by_cases z6 : j = 49
    · rw [z6, f6]; rfl
    by_cases z7 : j = 50
    · rw [z7, f7]; rfl
    rw [o0 j z0 z1 z2 z3 z4 z5 z6 z7, y_o_om_ z0 z1 z2 z3 z4 z5 z6 z7]
  rw [h c h0 h1, y_o_ne h0 h1]
theorem y_o_rsm {m : cw_M} {sm : Int → Int} {go ge bk io ho hd sa ti : Int} {f : Int → Int} : cw_row (y_o m sm go ge bk io ho hd sa ti) m_sums_ f = y_o m f go ge bk io ho hd sa ti := by
  refine y_o_x rfl rfl rfl rfl rfl rfl rfl rfl rfl (fun j z0 z1 z2 z3 z4 z5 z6 z7 => by rw [cw_row_ne (by decide), y_o_om_ z0 z1 z2 z3 z4 z5 z6 z7]) (fun c h0 h1 => by rw [cw_row_ne h0, y_o_ne h0 h1])
theorem y_o_psm {m : cw_M} {sm : Int → Int} {go ge bk io ho hd sa ti : Int} {i v : Int} : cw_put (y_o m sm go ge bk io ho hd sa ti) m_sums_ i v = y_o m (cw_up sm i v) go ge bk io ho hd sa ti := by
  rw [cw_put_row, y_o_rsm, y_o_sm]
theorem y_o_fgo {m : cw_M} {sm : Int → Int} {go ge bk io ho hd sa ti : Int} {v : Int} : cw_put (y_o m sm go ge bk io ho hd sa ti) m_ 22 v = y_o m sm v ge bk io ho hd sa ti := by
  refine y_o_x rfl rfl rfl rfl rfl rfl rfl rfl rfl (fun j z0 z1 z2 z3 z4 z5 z6 z7 => by rw [cw_put_off z0, y_o_om_ z0 z1 z2 z3 z4 z5 z6 z7]) (fun c h0 h1 => by rw [cw_put_ne h1, y_o_ne h0 h1])
theorem y_o_fge {m : cw_M} {sm : Int → Int} {go ge bk io ho hd sa ti : Int} {v : Int} : cw_put (y_o m sm go ge bk io ho hd sa ti) m_ 23 v = y_o m sm go v bk io ho hd sa ti := by
  refine y_o_x rfl rfl rfl rfl rfl rfl rfl rfl rfl (fun j z0 z1 z2 z3 z4 z5 z6 z7 => by rw [cw_put_off z1, y_o_om_ z0 z1 z2 z3 z4 z5 z6 z7]) (fun c h0 h1 => by rw [cw_put_ne h1, y_o_ne h0 h1])
theorem y_o_fbk {m : cw_M} {sm : Int → Int} {go ge bk io ho hd sa ti : Int} {v : Int} : cw_put (y_o m sm go ge bk io ho hd sa ti) m_ 24 v = y_o m sm go ge v io ho hd sa ti := by
  refine y_o_x rfl rfl rfl rfl rfl rfl rfl rfl rfl (fun j z0 z1 z2 z3 z4 z5 z6 z7 => by rw [cw_put_off z2, y_o_om_ z0 z1 z2 z3 z4 z5 z6 z7]) (fun c h0 h1 => by rw [cw_put_ne h1, y_o_ne h0 h1])
theorem y_o_fio {m : cw_M} {sm : Int → Int} {go ge bk io ho hd sa ti : Int} {v : Int} : cw_put (y_o m sm go ge bk io ho hd sa ti) m_ 25 v = y_o m sm go ge bk v ho hd sa ti := by
  refine y_o_x rfl rfl rfl rfl rfl rfl rfl rfl rfl (fun j z0 z1 z2 z3 z4 z5 z6 z7 => by rw [cw_put_off z3, y_o_om_ z0 z1 z2 z3 z4 z5 z6 z7]) (fun c h0 h1 => by rw [cw_put_ne h1, y_o_ne h0 h1])
theorem y_o_fho {m : cw_M} {sm : Int → Int} {go ge bk io ho hd sa ti : Int} {v : Int} : cw_put (y_o m sm go ge bk io ho hd sa ti) m_ 47 v = y_o m sm go ge bk io v hd sa ti := by
  refine y_o_x rfl rfl rfl rfl rfl rfl rfl rfl rfl (fun j z0 z1 z2 z3 z4 z5 z6 z7 => by rw [cw_put_off z4, y_o_om_ z0 z1 z2 z3 z4 z5 z6 z7]) (fun c h0 h1 => by rw [cw_put_ne h1, y_o_ne h0 h1])
theorem y_o_fhd {m : cw_M} {sm : Int → Int} {go ge bk io ho hd sa ti : Int} {v : Int} : cw_put (y_o m sm go ge bk io ho hd sa ti) m_ 48 v = y_o m sm go ge bk io ho v sa ti := by
  refine y_o_x rfl rfl rfl rfl rfl rfl rfl rfl rfl (fun j z0 z1 z2 z3 z4 z5 z6 z7 => by rw [cw_put_off z5, y_o_om_ z0 z1 z2 z3 z4 z5 z6 z7]) (fun c h0 h1 => by rw [cw_put_ne h1, y_o_ne h0 h1])
theorem y_o_fsa {m : cw_M} {sm : Int → Int} {go ge bk io ho hd sa ti : Int} {v : Int} : cw_put (y_o m sm go ge bk io ho hd sa ti) m_ 49 v = y_o m sm go ge bk io ho hd v ti := by
  refine y_o_x rfl rfl rfl rfl rfl rfl rfl rfl rfl (fun j z0 z1 z2 z3 z4 z5 z6 z7 => by rw [cw_put_off z6, y_o_om_ z0 z1 z2 z3 z4 z5 z6 z7]) (fun c h0 h1 => by rw [cw_put_ne h1, y_o_ne h0 h1])
theorem y_o_fti {m : cw_M} {sm : Int → Int} {go ge bk io ho hd sa ti : Int} {v : Int} : cw_put (y_o m sm go ge bk io ho hd sa ti) m_ 50 v = y_o m sm go ge bk io ho hd sa v := by
  refine y_o_x rfl rfl rfl rfl rfl rfl rfl rfl rfl (fun j z0 z1 z2 z3 z4 z5 z6 z7 => by rw [cw_put_off z7, y_o_om_ z0 z1 z2 z3 z4 z5 z6 z7]) (fun c h0 h1 => by rw [cw_put_ne h1, y_o_ne h0 h1])
theorem y_o_2 {m : cw_M} {sm : Int → Int} {go ge bk io ho hd sa ti : Int} {sm' : Int → Int} {go' ge' bk' io' ho' hd' sa' ti' : Int} : y_o (y_o m sm go ge bk io ho hd sa ti) sm' go' ge' bk' io' ho' hd' sa' ti' = y_o m sm' go' ge' bk' io' ho' hd' sa' ti' := by
  refine y_o_x rfl rfl rfl rfl rfl rfl rfl rfl rfl (fun j z0 z1 z2 z3 z4 z5 z6 z7 => by rw [y_o_om_ z0 z1 z2 z3 z4 z5 z6 z7, y_o_om_ z0 z1 z2 z3 z4 z5 z6 z7]) (fun c h0 h1 => by rw [y_o_ne h0 h1, y_o_ne h0 h1])
theorem y_o_self {m : cw_M} : y_o m (m m_sums_) (m m_ 22) (m m_ 23) (m m_ 24) (m m_ 25) (m m_ 47) (m m_ 48) (m m_ 49) (m m_ 50) = m := by
  refine (y_o_x rfl rfl rfl rfl rfl rfl rfl rfl rfl (fun _ _ _ _ _ _ _ _ _ => rfl) (fun _ _ _ => rfl)).symm
/-! A clause of orders is gone along, by the reference (wip/whole/tools/m106.py). -/
theorem yo_z {m : cw_M} {sm : Int → Int} {go ge bk io ho hd sa ti g b : Int} : z_m (y_o m sm go ge bk io ho hd sa ti) g b = y_o m sm g ge b io ho hd sa ti := by
  refine y_o_x (by rw [z_m_ne (by decide)]; rfl) rfl rfl rfl rfl rfl rfl rfl rfl (fun j z0 z1 z2 z3 z4 z5 z6 z7 => ?_) (fun c h0 h1 => ?_)
  · rw [z_m_om_ z0 z2, y_o_om_ z0 z1 z2 z3 z4 z5 z6 z7]
  · rw [z_m_ne h1, y_o_ne h0 h1]
/-- another memory beneath: only readings and what goes along are others -/
def Z_B (m M : cw_M) : Prop := (∀ c, c ≠ m_low_ → c ≠ m_high_ → c ≠ m_marks_ → c ≠ m_treeOf_ → c ≠ m_sums_ → c ≠ m_ → M c = m c) ∧ ∀ j, j ≠ 22 → j ≠ 23 → j ≠ 24 → j ≠ 25 → j ≠ 32 → j ≠ 35 → j ≠ 47 → j ≠ 48 → j ≠ 49 → j ≠ 50 → M m_ j = m m_ j
theorem Z_Br {m : cw_M} : Z_B m m := ⟨fun _ _ _ _ _ _ _ => rfl, fun _ _ _ _ _ _ _ _ _ _ _ => rfl⟩
theorem Z_Bt {m m1 m2 : cw_M} (h : Z_B m m1) (h2 : Z_B m1 m2) : Z_B m m2 := ⟨fun c a b d e f g => by rw [h2.1 c a b d e f g, h.1 c a b d e f g], fun j a1 a2 a3 a4 a5 a6 a7 a8 a9 b1 => by rw [h2.2 j a1 a2 a3 a4 a5 a6 a7 a8 a9 b1, h.2 j a1 a2 a3 a4 a5 a6 a7 a8 a9 b1]⟩
theorem Z_Bz {m M : cw_M} {sm : Int → Int} {go ge bk io ho hd sa ti : Int} (h : Z_r true (y_o m sm go ge bk io ho hd sa ti) M) : Z_B m M := ⟨fun c a b d e f g => by rw [h.2.1 c a b d e g, y_o_ne f g], fun j a1 a2 a3 a4 a5 a6 a7 a8 a9 b1 => by rw [h.2.2 j a5 a6, y_o_om_ a1 a2 a3 a4 a7 a8 a9 b1]⟩
theorem Z_Bo {m M : cw_M} {sm : Int → Int} {go ge bk io ho hd sa ti : Int} : Z_B M (y_o M sm go ge bk io ho hd sa ti) := ⟨fun c _ _ _ _ f g => y_o_ne f g, fun j a1 a2 a3 a4 _ _ a7 a8 a9 b1 => y_o_om_ a1 a2 a3 a4 a7 a8 a9 b1⟩
theorem yo_of {m M : cw_M} {sm : Int → Int} {go ge bk io ho hd sa ti g b : Int} (h : Z_r true (y_o m sm go ge bk io ho hd sa ti) M) : z_m M g b = y_o M sm g ge b io ho hd sa ti := by
  refine y_o_x ?_ rfl ?_ rfl ?_ ?_ ?_ ?_ ?_ (fun j z0 z1 z2 z3 z4 z5 z6 z7 => z_m_om_ z0 z2) (fun c h0 h1 => z_m_ne h1)
  · rw [z_m_ne (by decide), h.2.1 _ (by decide) (by decide) (by decide) (by decide) (by decide)]; rfl
  · rw [z_m_om_ (by decide) (by decide), h.2.2 _ (by decide) (by decide)]; rfl
  · rw [z_m_om_ (by decide) (by decide), h.2.2 _ (by decide) (by decide)]; rfl
  · rw [z_m_om_ (by decide) (by decide), h.2.2 _ (by decide) (by decide)]; rfl
  · rw [z_m_om_ (by decide) (by decide), h.2.2 _ (by decide) (by decide)]; rfl
  · rw [z_m_om_ (by decide) (by decide), h.2.2 _ (by decide) (by decide)]; rfl
  · rw [z_m_om_ (by decide) (by decide), h.2.2 _ (by decide) (by decide)]; rfl
/-- what orders stand on -/
def O_h (m : cw_M) (c v : Int → Int) (n : Int) (E : Int → Int) : Prop := (0 ≤ n ∧ n ≤ 400) ∧ c n = 0 ∧ (∀ i, 0 ≤ i → i < n → m m_kept_ (58 + (2400 + i)) = c i ∧ m m_kept_ (2858 + (2400 + i)) = v i ∧ 0 ≤ v i) ∧ (∀ i, 0 ≤ i → i < 17 → -1000000 ≤ E i ∧ E i ≤ 1000000) ∧ Z_o m E
theorem O_hr {m M : cw_M} {c v E : Int → Int} {n : Int} (h : O_h m c v n E) (hr : Z_B m M) : O_h M c v n E := by
  have ek : M m_kept_ = m m_kept_ := hr.1 _ (by decide) (by decide) (by decide) (by decide) (by decide) (by decide)
  have ec : M m_catalan_ = m m_catalan_ := hr.1 _ (by decide) (by decide) (by decide) (by decide) (by decide) (by decide)
  obtain ⟨h1, h2, h3, h4, g⟩ := h
  refine ⟨h1, h2, fun i a b => by rw [ek]; exact h3 i a b, h4, ?_⟩
  unfold Z_o at g ⊢
  unfold j_m j_k at g ⊢
  rw [ek, ec, hr.2 27 (by decide) (by decide) (by decide) (by decide) (by decide) (by decide) (by decide) (by decide) (by decide) (by decide), hr.2 28 (by decide) (by decide) (by decide) (by decide) (by decide) (by decide) (by decide) (by decide) (by decide) (by decide)]
  exact g
theorem O_Z {m : cw_M} {c v E sm : Int → Int} {n go bk ho hd sa ti : Int} (h : O_h m c v n E) : Z_h (y_o m sm go (2400 + n) bk 1 ho hd sa ti) c v true n 2400 E := ⟨⟨h.1, by decide, by decide⟩, h.2.1, rfl, h.2.2.1, rfl, h.2.2.2.1, fun q => (by cases q), fun _ => h.2.2.2.2⟩
section OO
variable {d : Nat} {m : cw_M} {Q : Option cw_V → cw_M → Prop} {c v E sm : Int → Int} {n go bk ho hd sa ti : Int}
theorem O_code (hm : la_ok m) (hO : O_h m c v n E) {k i0 : Int} (h0 : 0 ≤ i0) (h1 : i0 ≤ n) (hk : k = 2400 + i0) (h : Q (some (vi (c i0))) (y_o m sm go (2400 + n) bk 1 ho hd sa ti)) : cw_C d k_M_codeAt [vr m_, vi k] (y_o m sm go (2400 + n) bk 1 ho hd sa ti) Q := by
  rw [← yo_z (m := m) (go := go) (bk := bk)] at h ⊢
  exact M_codeAtZ (y_o_ok hm) (O_Z hO) h0 h1 hk h
theorem O_pass1 (hm : la_ok m) (hO : O_h m c v n E) {i0 ch : Int} (h0 : 0 ≤ i0) (h1 : i0 ≤ n) (hg : go = 2400 + i0) (hc : c i0 = ch) (h : Q (some (vi 1)) (y_o m sm (go + 1) (2400 + n) bk 1 ho hd sa ti)) : cw_C (d + 1) k_M_passes0 [vr m_, vi ch] (y_o m sm go (2400 + n) bk 1 ho hd sa ti) Q := by
  have e := yo_z (m := m) (sm := sm) (go := go) (ge := 2400 + n) (bk := bk) (io := 1) (ho := ho) (hd := hd) (sa := sa) (ti := ti) (g := go) (b := bk)
  have e2 := yo_z (m := m) (sm := sm) (go := go) (ge := 2400 + n) (bk := bk) (io := 1) (ho := ho) (hd := hd) (sa := sa) (ti := ti) (g := go + 1) (b := bk)
  refine la_go_C0 e.symm ?_
  rw [← e2] at h
  exact M_passes0Z1 (y_o_ok hm) (O_Z hO) h0 h1 hg hc h
theorem O_pass0 (hm : la_ok m) (hO : O_h m c v n E) {i0 ch : Int} (h0 : 0 ≤ i0) (h1 : i0 ≤ n) (hg : go = 2400 + i0) (hc : c i0 ≠ ch) (h : Q (some (vi 0)) (y_o m sm go (2400 + n) bk 1 ho hd sa ti)) : cw_C (d + 1) k_M_passes0 [vr m_, vi ch] (y_o m sm go (2400 + n) bk 1 ho hd sa ti) Q := by
  have e := yo_z (m := m) (sm := sm) (go := go) (ge := 2400 + n) (bk := bk) (io := 1) (ho := ho) (hd := hd) (sa := sa) (ti := ti) (g := go) (b := bk)
  refine la_go_C0 e.symm ?_
  refine M_passes0Z0 (y_o_ok hm) (O_Z hO) h0 h1 hg hc ?_
  rw [e]; exact h
theorem O_sum (hm : la_ok m) (hO : O_h m c v n E) {i0 l i1 l1 lv : Int} {D : p_D} (h0 : 0 ≤ i0) (h1 : i0 ≤ n) (hl0 : 0 ≤ l) (hl1 : l ≤ 50) (hlv : lv = 0 ∨ lv = 1) (hb : bk = 0 ∨ bk = 1) (hg : go = 2400 + i0) (hp : p_s c v true 2100 3 0 i0 l p_z = .ok (i1, l1, D)) (hQ : ∀ m2 g r b2, la_ok m2 → Z_B m m2 → O_h m2 c v n E → g = 2400 + i1 → W_s lv bk (D E) r b2 → Q (some (vl r)) (y_o m2 sm g (2400 + n) b2 1 ho hd sa ti)) : cw_C (d + 37) k_M_sumOf [vr m_, vi lv] (y_o m sm go (2400 + n) bk 1 ho hd sa ti) Q := by
  have e := yo_z (m := m) (sm := sm) (go := go) (ge := 2400 + n) (bk := bk) (io := 1) (ho := ho) (hd := hd) (sa := sa) (ti := ti) (g := go) (b := bk)
  refine la_go_C0 e.symm ?_
  exact M_sumO (y_o_ok hm) (O_Z hO) h0 h1 hl0 hl1 hlv hb hg hp (fun m2 g r b2 a1 a2 a3 a4 => by rw [yo_of a2]; exact hQ m2 g r b2 a1 (Z_Bz a2) (O_hr hO (Z_Bz a2)) a3 a4)
theorem O_test (hm : la_ok m) (hO : O_h m c v n E) {i0 l i1 l1 lv : Int} {D : p_D} (h0 : 0 ≤ i0) (h1 : i0 ≤ n) (hl0 : 0 ≤ l) (hl1 : l ≤ 50) (hlv : lv = 0 ∨ lv = 1) (hb : bk = 0 ∨ bk = 1) (hg : go = 2400 + i0) (hp : p_t c v true 2100 3 0 i0 l p_z false = .ok (i1, l1, D)) (hQ : ∀ m2 g r b2, la_ok m2 → Z_B m m2 → O_h m2 c v n E → g = 2400 + i1 → T_s lv bk (D E) r b2 → Q (some (vi r)) (y_o m2 sm g (2400 + n) b2 1 ho hd sa ti)) : cw_C (d + 75) k_M_testOf [vr m_, vi lv] (y_o m sm go (2400 + n) bk 1 ho hd sa ti) Q := by
  have e := yo_z (m := m) (sm := sm) (go := go) (ge := 2400 + n) (bk := bk) (io := 1) (ho := ho) (hd := hd) (sa := sa) (ti := ti) (g := go) (b := bk)
  refine la_go_C0 e.symm ?_
  exact M_testO (y_o_ok hm) (O_Z hO) h0 h1 hl0 hl1 hlv hb hg hp (fun m2 g r b2 a1 a2 a3 a4 => by rw [yo_of a2]; exact hQ m2 g r b2 a1 (Z_Bz a2) (O_hr hO (Z_Bz a2)) a3 a4)
end OO
theorem p_timI {c v : Int → Int} {o : Bool} {h i l i1 l1 : Int} {A B : p_D} {K : p_K} (e : p_tim c v o h A B i l = .ok (i1, l1, K)) : (c i = 13 ∧ c (i + 1) = 50 ∧ 1 ≤ v (i + 1) ∧ v (i + 1) ≤ 20 ∧ p_ift c v o h A B (v (i + 1)) (i + 2) l = .ok (i1, l1, K)) ∨ (c i ≠ 13 ∧ p_ift c v o h A B 1 i l = .ok (i1, l1, K)) := by
  unfold p_tim at e
  by_cases q : c i = 13
  · rw [if_pos q] at e
    by_cases q2 : c (i + 1) = 50 ∧ 1 ≤ v (i + 1) ∧ v (i + 1) ≤ 20
    · rw [if_pos q2] at e; exact Or.inl ⟨q, q2.1, q2.2.1, q2.2.2, e⟩
    · rw [if_neg q2] at e; cases e
  · rw [if_neg q] at e; exact Or.inr ⟨q, e⟩
theorem p_twoI {c v : Int → Int} {o : Bool} {h w i l i1 l1 : Int} {K : p_K} (e : p_two c v o h w i l = .ok (i1, l1, K)) : ∃ i2 l2 A i3 l3 B, p_s c v o 2100 3 0 (i + 1) l p_z = .ok (i2, l2, A) ∧ c i2 = w ∧ p_s c v o 2100 3 0 (i2 + 1) l2 p_z = .ok (i3, l3, B) ∧ p_tim c v o h A B i3 l3 = .ok (i1, l1, K) := by
  unfold p_two at e
  revert e
  cases p_s c v o 2100 3 0 (i + 1) l p_z with
  | error x => intro e; cases e
  | ok z =>
    obtain ⟨i2, l2, A⟩ := z
    intro e
    dsimp only at e
    by_cases q : c i2 = w
    · rw [if_pos q] at e
      revert e
      cases hz : p_s c v o 2100 3 0 (i2 + 1) l2 p_z with
      | error x => intro e; cases e
      | ok z =>
        obtain ⟨i3, l3, B⟩ := z
        intro e
        exact ⟨i2, l2, A, i3, l3, B, rfl, q, hz, e⟩
    · rw [if_neg q] at e; cases e
theorem p_oneOi {c v : Int → Int} {i l i1 l1 : Int} {K : p_K} (e : p_one c v true i l = .ok (i1, l1, K)) : (c i = 20 ∧ p_two c v true 0 22 i l = .ok (i1, l1, K)) ∨ (c i = 23 ∧ p_two c v true 1 24 i l = .ok (i1, l1, K)) ∨ (c i = 25 ∧ ∃ i2 l2 A, p_s c v true 2100 3 0 (i + 1) l p_z = .ok (i2, l2, A) ∧ p_tim c v true 2 A p_z i2 l2 = .ok (i1, l1, K)) ∨ (c i = 26 ∧ p_tim c v true 3 p_z p_z (i + 1) l = .ok (i1, l1, K)) := by
  rw [p_oneO] at e
  by_cases q1 : c i = 20
  · rw [if_pos q1] at e; exact Or.inl ⟨q1, e⟩
  rw [if_neg q1] at e
  by_cases q2 : c i = 23
  · rw [if_pos q2] at e; exact Or.inr (Or.inl ⟨q2, e⟩)
  rw [if_neg q2] at e
  by_cases q3 : c i = 25
  · rw [if_pos q3] at e
    revert e
    cases hz : p_s c v true 2100 3 0 (i + 1) l p_z with
    | error x => intro e; cases e
    | ok z =>
      obtain ⟨i2, l2, A⟩ := z
      intro e
      exact Or.inr (Or.inr (Or.inl ⟨q3, i2, l2, A, rfl, e⟩))
  rw [if_neg q3] at e
  by_cases q4 : c i = 26
  · rw [if_pos q4] at e; exact Or.inr (Or.inr (Or.inr ⟨q4, e⟩))
  · rw [if_neg q4] at e; cases e
theorem O_143 {d : Nat} {m : cw_M} {Q : Option cw_V → cw_M → Prop} {c v E sm : Int → Int} {n go bk ho hd sa ti ed lv nn kx i0 l i1 l1 hh : Int} {A B : p_D} {KK : p_K} (hm0 : la_ok m) (hO : O_h m c v n E) (h0 : 0 ≤ i0) (h1 : i0 ≤ n) (hl0 : 0 ≤ l) (hl1 : l ≤ 50) (hlv : lv = 0 ∨ lv = 1) (hg : go = 2400 + i0) (hp : p_tim c v true hh A B i0 l = .ok (i1, l1, KK)) (h : (∀ m2 b2 t2, la_ok m2 → Z_B m m2 → O_h m2 c v n E → (t2 = 0 ∨ t2 = 1) → (lv = 1 → (t2 = 1 ↔ k_hd KK.2.2.2.2 E)) → Q none (y_o m2 sm (2400 + i1 + 1) (2400 + n) b2 1 KK.2.2.2.1 hd sa t2))) : cw_R (d + 76) k_M_goesAlong 143 [vr m_, vi ed, vi lv, vi nn, vi kx] [] (y_o m sm go (2400 + n) bk 1 ho hd sa ti) Q := by
  have hm : la_ok (y_o m sm go (2400 + n) bk 1 ho hd sa ti) := y_o_ok hm0
  have yn := hO.1
  have hlt : ∀ z, c z ≠ 0 → z ≤ n → z < n := fun z q z1 => by
    by_cases e : z = n
    · rw [e, hO.2.1] at q; exact absurd rfl q
    · omega
  rcases p_timI hp with ⟨q1, q2, q3, q4, e4⟩ | ⟨q1, e4⟩
  · have i0n := hlt i0 (by omega) h1
    have i0m := hlt (i0 + 1) (by omega) (by omega)
    have vv : m m_kept_ (2858 + (go + 1)) = v (i0 + 1) := by rw [show go + 1 = 2400 + (i0 + 1) by omega]; exact (hO.2.2.1 (i0 + 1) (by omega) (hlt _ (by omega) (by omega))).2.1
    obtain ⟨i3, hi3⟩ : ∃ z, z = i0 + 2 := ⟨_, rfl⟩
    obtain ⟨l3, hl3⟩ : ∃ z, z = l := ⟨_, rfl⟩
    rw [← hi3, ← hl3] at e4
    rcases p_iftI e4 with ⟨q5, T, e3, hK⟩ | ⟨q5, q6, q7, hK⟩
    · have i3n := hlt i3 (by omega) (by omega)
      have N3 := p_Nok ((p_tN (c := c) (v := v) (o := true) hO.2.1 2100 (dp := 0) (i := i3 + 1) (l := l3) (acc := p_z) (ng := false) (by omega) (by omega) (by omega) (by omega)).2.2.2.1 (by omega)) e3
      refine la_go_R hm 57 [] ?_
      have hm21 : la_ok (cw_put (y_o m sm go (2400 + n) bk 1 ho hd sa ti) m_ 47 1) := la_put hm (by decide) (Or.inl rfl)
      show cw_C _ _ [vr m_, vi 13] (cw_put (y_o m sm go (2400 + n) bk 1 ho hd sa ti) m_ 47 1) _
      rw [y_o_fho]
      have hm22 : la_ok (y_o m sm go (2400 + n) bk 1 1 hd sa ti) := y_o_ok hm0
      refine O_pass1 hm0 hO (i0 := i0) (by omega) (by omega) (by omega) (by omega) ⟨(y_o_ok hm0), ?_⟩
      refine br_f (show ¬ ((1 : Int) = 0) by decide) ?_
      refine And.intro (show -2147483648 ≤ 2858 + (go + 1) ∧ 2858 + (go + 1) < 2147483648 by omega) ?_
      refine And.intro (show 0 ≤ 2858 + (go + 1) ∧ 2858 + (go + 1) < 5658 by omega) ?_
      have hm23 : la_ok (cw_put (y_o m sm (go + 1) (2400 + n) bk 1 1 hd sa ti) m_ 47 (m m_kept_ (2858 + (go + 1)))) := la_put (y_o_ok hm0) (by decide) (Or.inl rfl)
      refine And.intro (show -2147483648 ≤ (go + 1) + 1 ∧ (go + 1) + 1 < 2147483648 by omega) ?_
      have hm24 : la_ok (cw_put (cw_put (y_o m sm (go + 1) (2400 + n) bk 1 1 hd sa ti) m_ 47 (m m_kept_ (2858 + (go + 1)))) m_ 22 ((go + 1) + 1)) := la_put hm23 (by decide) (Or.inl rfl)
      refine And.intro (Or.inl rfl) ?_
      have hm25 : la_ok (cw_put (cw_put (cw_put (y_o m sm (go + 1) (2400 + n) bk 1 1 hd sa ti) m_ 47 (m m_kept_ (2858 + (go + 1)))) m_ 22 ((go + 1) + 1)) m_ 24 0) := la_put hm24 (by decide) (Or.inl rfl)
      show cw_C _ _ [vr m_, vi 4] (cw_put (cw_put (cw_put (y_o m sm (go + 1) (2400 + n) bk 1 1 hd sa ti) m_ 47 (m m_kept_ (2858 + (go + 1)))) m_ 22 ((go + 1) + 1)) m_ 24 0) _
      rw [y_o_fho, y_o_fgo, y_o_fbk]
      have hm26 : la_ok (y_o m sm ((go + 1) + 1) (2400 + n) 0 1 (m m_kept_ (2858 + (go + 1))) hd sa ti) := y_o_ok hm0
      refine O_pass1 hm0 hO (i0 := i3) (by omega) (by omega) (by omega) (by omega) ⟨(y_o_ok hm0), ?_⟩
      refine br_f (show ¬ ((1 : Int) = 0) by decide) ?_
      show cw_C _ _ [vr m_, vi lv] (y_o m sm (((go + 1) + 1) + 1) (2400 + n) 0 1 (m m_kept_ (2858 + (go + 1))) hd sa ti) _
      refine O_test hm0 hO (i0 := i3 + 1) (l := l3) (by omega) (by omega) (by omega) (by omega) (by omega) (by omega) (by omega) e3 (fun (m27 : cw_M) (g27 v27 b27 : Int) (hm27 : la_ok m27) (hz27 : Z_B m m27) (hO27 : O_h m27 c v n E) (hg27 : g27 = 2400 + i1) (hT27 : T_s lv 0 (T E) v27 b27) => ⟨(y_o_ok hm27), ?_⟩)
      have hr27 : Z_B m m27 := hz27
      have wb27 := hT27.1
      have wr27 := hT27.2.1
      refine And.intro (fun (c28 : v27 = 0) => ?_) (fun (c28 : ¬ (v27 = 0)) => ?_)
      · refine And.intro (Or.inl rfl) ?_
        have hm29 : la_ok (cw_put (y_o m27 sm g27 (2400 + n) b27 1 (m m_kept_ (2858 + (go + 1))) hd sa ti) m_ 50 0) := la_put (y_o_ok hm27) (by decide) (Or.inl rfl)
        refine br_t (show (0 : Int) = 0 by decide) ?_
        refine And.intro (Or.inl rfl) ?_
        have hm30 : la_ok (cw_put (cw_put (y_o m27 sm g27 (2400 + n) b27 1 (m m_kept_ (2858 + (go + 1))) hd sa ti) m_ 50 0) m_ 50 0) := la_put hm29 (by decide) (Or.inl rfl)
        refine And.intro (show -2147483648 ≤ g27 + 1 ∧ g27 + 1 < 2147483648 by omega) ?_
        have hm31 : la_ok (cw_put (cw_put (cw_put (y_o m27 sm g27 (2400 + n) b27 1 (m m_kept_ (2858 + (go + 1))) hd sa ti) m_ 50 0) m_ 50 0) m_ 22 (g27 + 1)) := la_put hm30 (by decide) (Or.inl rfl)
        show Q none (cw_put (cw_put (cw_put (y_o m27 sm g27 (2400 + n) b27 1 (m m_kept_ (2858 + (go + 1))) hd sa ti) m_ 50 0) m_ 50 0) m_ 22 (g27 + 1))
        rw [y_o_fti, y_o_fti, y_o_fgo]
        have hm32 : la_ok (y_o m27 sm (g27 + 1) (2400 + n) b27 1 (m m_kept_ (2858 + (go + 1))) hd sa 0) := y_o_ok hm27
        have hgo : g27 + 1 = 2400 + i1 + 1 := by omega
        rw [hgo]
        have hho : m m_kept_ (2858 + (go + 1)) = KK.2.2.2.1 := by rw [hK]; exact vv
        rw [hho]
        refine h _ _ _ hm27 hr27 hO27 (by omega) ?_
        intro z
        have q := hT27.2.2.1 ⟨z, rfl⟩
        rw [hK]
        show _ ↔ k_hd (some T) E
        constructor
        · intro y t ht
          have ht := Option.some.inj ht
          rw [← ht]
          cases hz : T E with
          | none => exact absurd (q.2 hz) (by omega)
          | some x => have := q.1 x hz; rw [show x = 1 by omega]
        · intro y
          have := q.1 1 (y T rfl)
          omega
      · refine And.intro (Or.inr rfl) ?_
        have hm33 : la_ok (cw_put (y_o m27 sm g27 (2400 + n) b27 1 (m m_kept_ (2858 + (go + 1))) hd sa ti) m_ 50 1) := la_put (y_o_ok hm27) (by decide) (Or.inl rfl)
        refine br_f (show ¬ ((1 : Int) = 0) by decide) ?_
        refine And.intro (fun (c34 : b27 ≠ 0) => ?_) (fun (c34 : ¬ (b27 ≠ 0)) => ?_)
        · refine And.intro (Or.inl rfl) ?_
          have hm35 : la_ok (cw_put (cw_put (y_o m27 sm g27 (2400 + n) b27 1 (m m_kept_ (2858 + (go + 1))) hd sa ti) m_ 50 1) m_ 50 0) := la_put hm33 (by decide) (Or.inl rfl)
          refine And.intro (show -2147483648 ≤ g27 + 1 ∧ g27 + 1 < 2147483648 by omega) ?_
          have hm36 : la_ok (cw_put (cw_put (cw_put (y_o m27 sm g27 (2400 + n) b27 1 (m m_kept_ (2858 + (go + 1))) hd sa ti) m_ 50 1) m_ 50 0) m_ 22 (g27 + 1)) := la_put hm35 (by decide) (Or.inl rfl)
          show Q none (cw_put (cw_put (cw_put (y_o m27 sm g27 (2400 + n) b27 1 (m m_kept_ (2858 + (go + 1))) hd sa ti) m_ 50 1) m_ 50 0) m_ 22 (g27 + 1))
          rw [y_o_fti, y_o_fti, y_o_fgo]
          have hm37 : la_ok (y_o m27 sm (g27 + 1) (2400 + n) b27 1 (m m_kept_ (2858 + (go + 1))) hd sa 0) := y_o_ok hm27
          have hgo : g27 + 1 = 2400 + i1 + 1 := by omega
          rw [hgo]
          have hho : m m_kept_ (2858 + (go + 1)) = KK.2.2.2.1 := by rw [hK]; exact vv
          rw [hho]
          refine h _ _ _ hm27 hr27 hO27 (by omega) ?_
          intro z
          have q := hT27.2.2.1 ⟨z, rfl⟩
          rw [hK]
          show _ ↔ k_hd (some T) E
          constructor
          · intro y t ht
            have ht := Option.some.inj ht
            rw [← ht]
            cases hz : T E with
            | none => exact absurd (q.2 hz) (by omega)
            | some x => have := q.1 x hz; rw [show x = 1 by omega]
          · intro y
            have := q.1 1 (y T rfl)
            omega
        · refine And.intro (Or.inr rfl) ?_
          have hm38 : la_ok (cw_put (cw_put (y_o m27 sm g27 (2400 + n) b27 1 (m m_kept_ (2858 + (go + 1))) hd sa ti) m_ 50 1) m_ 50 1) := la_put hm33 (by decide) (Or.inl rfl)
          refine And.intro (show -2147483648 ≤ g27 + 1 ∧ g27 + 1 < 2147483648 by omega) ?_
          have hm39 : la_ok (cw_put (cw_put (cw_put (y_o m27 sm g27 (2400 + n) b27 1 (m m_kept_ (2858 + (go + 1))) hd sa ti) m_ 50 1) m_ 50 1) m_ 22 (g27 + 1)) := la_put hm38 (by decide) (Or.inl rfl)
          show Q none (cw_put (cw_put (cw_put (y_o m27 sm g27 (2400 + n) b27 1 (m m_kept_ (2858 + (go + 1))) hd sa ti) m_ 50 1) m_ 50 1) m_ 22 (g27 + 1))
          rw [y_o_fti, y_o_fti, y_o_fgo]
          have hm40 : la_ok (y_o m27 sm (g27 + 1) (2400 + n) b27 1 (m m_kept_ (2858 + (go + 1))) hd sa 1) := y_o_ok hm27
          have hgo : g27 + 1 = 2400 + i1 + 1 := by omega
          rw [hgo]
          have hho : m m_kept_ (2858 + (go + 1)) = KK.2.2.2.1 := by rw [hK]; exact vv
          rw [hho]
          refine h _ _ _ hm27 hr27 hO27 (by omega) ?_
          intro z
          have q := hT27.2.2.1 ⟨z, rfl⟩
          rw [hK]
          show _ ↔ k_hd (some T) E
          constructor
          · intro y t ht
            have ht := Option.some.inj ht
            rw [← ht]
            cases hz : T E with
            | none => exact absurd (q.2 hz) (by omega)
            | some x => have := q.1 x hz; rw [show x = 1 by omega]
          · intro y
            have := q.1 1 (y T rfl)
            omega
    · have q5 := q5
      refine la_go_R hm 53 [] ?_
      have hm21 : la_ok (cw_put (y_o m sm go (2400 + n) bk 1 ho hd sa ti) m_ 47 1) := la_put hm (by decide) (Or.inl rfl)
      show cw_C _ _ [vr m_, vi 13] (cw_put (y_o m sm go (2400 + n) bk 1 ho hd sa ti) m_ 47 1) _
      rw [y_o_fho]
      have hm22 : la_ok (y_o m sm go (2400 + n) bk 1 1 hd sa ti) := y_o_ok hm0
      refine O_pass1 hm0 hO (i0 := i0) (by omega) (by omega) (by omega) (by omega) ⟨(y_o_ok hm0), ?_⟩
      refine br_f (show ¬ ((1 : Int) = 0) by decide) ?_
      refine And.intro (show -2147483648 ≤ 2858 + (go + 1) ∧ 2858 + (go + 1) < 2147483648 by omega) ?_
      refine And.intro (show 0 ≤ 2858 + (go + 1) ∧ 2858 + (go + 1) < 5658 by omega) ?_
      have hm23 : la_ok (cw_put (y_o m sm (go + 1) (2400 + n) bk 1 1 hd sa ti) m_ 47 (m m_kept_ (2858 + (go + 1)))) := la_put (y_o_ok hm0) (by decide) (Or.inl rfl)
      refine And.intro (show -2147483648 ≤ (go + 1) + 1 ∧ (go + 1) + 1 < 2147483648 by omega) ?_
      have hm24 : la_ok (cw_put (cw_put (y_o m sm (go + 1) (2400 + n) bk 1 1 hd sa ti) m_ 47 (m m_kept_ (2858 + (go + 1)))) m_ 22 ((go + 1) + 1)) := la_put hm23 (by decide) (Or.inl rfl)
      refine And.intro (Or.inl rfl) ?_
      have hm25 : la_ok (cw_put (cw_put (cw_put (y_o m sm (go + 1) (2400 + n) bk 1 1 hd sa ti) m_ 47 (m m_kept_ (2858 + (go + 1)))) m_ 22 ((go + 1) + 1)) m_ 24 0) := la_put hm24 (by decide) (Or.inl rfl)
      show cw_C _ _ [vr m_, vi 4] (cw_put (cw_put (cw_put (y_o m sm (go + 1) (2400 + n) bk 1 1 hd sa ti) m_ 47 (m m_kept_ (2858 + (go + 1)))) m_ 22 ((go + 1) + 1)) m_ 24 0) _
      rw [y_o_fho, y_o_fgo, y_o_fbk]
      have hm26 : la_ok (y_o m sm ((go + 1) + 1) (2400 + n) 0 1 (m m_kept_ (2858 + (go + 1))) hd sa ti) := y_o_ok hm0
      refine O_pass0 hm0 hO (i0 := i3) (by omega) (by omega) (by omega) (by omega) ⟨hm26, ?_⟩
      refine br_t (show (0 : Int) = 0 by decide) ?_
      refine And.intro (Or.inr rfl) ?_
      have hm27 : la_ok (cw_put (y_o m sm ((go + 1) + 1) (2400 + n) 0 1 (m m_kept_ (2858 + (go + 1))) hd sa ti) m_ 50 1) := la_put hm26 (by decide) (Or.inl rfl)
      refine br_f (show ¬ ((1 : Int) = 0) by decide) ?_
      refine br_f (show ¬ ((0 : Int) ≠ 0) by decide) ?_
      refine And.intro (Or.inr rfl) ?_
      have hm28 : la_ok (cw_put (cw_put (y_o m sm ((go + 1) + 1) (2400 + n) 0 1 (m m_kept_ (2858 + (go + 1))) hd sa ti) m_ 50 1) m_ 50 1) := la_put hm27 (by decide) (Or.inl rfl)
      refine And.intro (show -2147483648 ≤ ((go + 1) + 1) + 1 ∧ ((go + 1) + 1) + 1 < 2147483648 by omega) ?_
      have hm29 : la_ok (cw_put (cw_put (cw_put (y_o m sm ((go + 1) + 1) (2400 + n) 0 1 (m m_kept_ (2858 + (go + 1))) hd sa ti) m_ 50 1) m_ 50 1) m_ 22 (((go + 1) + 1) + 1)) := la_put hm28 (by decide) (Or.inl rfl)
      show Q none (cw_put (cw_put (cw_put (y_o m sm ((go + 1) + 1) (2400 + n) 0 1 (m m_kept_ (2858 + (go + 1))) hd sa ti) m_ 50 1) m_ 50 1) m_ 22 (((go + 1) + 1) + 1))
      rw [y_o_fti, y_o_fti, y_o_fgo]
      have hm30 : la_ok (y_o m sm (((go + 1) + 1) + 1) (2400 + n) 0 1 (m m_kept_ (2858 + (go + 1))) hd sa 1) := y_o_ok hm0
      have hgo : ((go + 1) + 1) + 1 = 2400 + i1 + 1 := by omega
      rw [hgo]
      have hho : m m_kept_ (2858 + (go + 1)) = KK.2.2.2.1 := by rw [hK]; exact vv
      rw [hho]
      refine h _ _ _ hm0 Z_Br hO (by omega) ?_
      intro z
      rw [hK]
      exact ⟨fun _ t ht => (by cases ht), fun _ => by omega⟩
  · obtain ⟨i3, hi3⟩ : ∃ z, z = i0 := ⟨_, rfl⟩
    obtain ⟨l3, hl3⟩ : ∃ z, z = l := ⟨_, rfl⟩
    rw [← hi3, ← hl3] at e4
    rcases p_iftI e4 with ⟨q5, T, e3, hK⟩ | ⟨q5, q6, q7, hK⟩
    · have i3n := hlt i3 (by omega) (by omega)
      have N3 := p_Nok ((p_tN (c := c) (v := v) (o := true) hO.2.1 2100 (dp := 0) (i := i3 + 1) (l := l3) (acc := p_z) (ng := false) (by omega) (by omega) (by omega) (by omega)).2.2.2.1 (by omega)) e3
      refine la_go_R hm 42 [] ?_
      have hm21 : la_ok (cw_put (y_o m sm go (2400 + n) bk 1 ho hd sa ti) m_ 47 1) := la_put hm (by decide) (Or.inl rfl)
      show cw_C _ _ [vr m_, vi 13] (cw_put (y_o m sm go (2400 + n) bk 1 ho hd sa ti) m_ 47 1) _
      rw [y_o_fho]
      have hm22 : la_ok (y_o m sm go (2400 + n) bk 1 1 hd sa ti) := y_o_ok hm0
      refine O_pass0 hm0 hO (i0 := i0) (by omega) (by omega) (by omega) (by omega) ⟨hm22, ?_⟩
      refine br_t (show (0 : Int) = 0 by decide) ?_
      refine And.intro (Or.inl rfl) ?_
      have hm23 : la_ok (cw_put (y_o m sm go (2400 + n) bk 1 1 hd sa ti) m_ 24 0) := la_put hm22 (by decide) (Or.inl rfl)
      show cw_C _ _ [vr m_, vi 4] (cw_put (y_o m sm go (2400 + n) bk 1 1 hd sa ti) m_ 24 0) _
      rw [y_o_fbk]
      have hm24 : la_ok (y_o m sm go (2400 + n) 0 1 1 hd sa ti) := y_o_ok hm0
      refine O_pass1 hm0 hO (i0 := i3) (by omega) (by omega) (by omega) (by omega) ⟨(y_o_ok hm0), ?_⟩
      refine br_f (show ¬ ((1 : Int) = 0) by decide) ?_
      show cw_C _ _ [vr m_, vi lv] (y_o m sm (go + 1) (2400 + n) 0 1 1 hd sa ti) _
      refine O_test hm0 hO (i0 := i3 + 1) (l := l3) (by omega) (by omega) (by omega) (by omega) (by omega) (by omega) (by omega) e3 (fun (m25 : cw_M) (g25 v25 b25 : Int) (hm25 : la_ok m25) (hz25 : Z_B m m25) (hO25 : O_h m25 c v n E) (hg25 : g25 = 2400 + i1) (hT25 : T_s lv 0 (T E) v25 b25) => ⟨(y_o_ok hm25), ?_⟩)
      have hr25 : Z_B m m25 := hz25
      have wb25 := hT25.1
      have wr25 := hT25.2.1
      refine And.intro (fun (c26 : v25 = 0) => ?_) (fun (c26 : ¬ (v25 = 0)) => ?_)
      · refine And.intro (Or.inl rfl) ?_
        have hm27 : la_ok (cw_put (y_o m25 sm g25 (2400 + n) b25 1 1 hd sa ti) m_ 50 0) := la_put (y_o_ok hm25) (by decide) (Or.inl rfl)
        refine br_t (show (0 : Int) = 0 by decide) ?_
        refine And.intro (Or.inl rfl) ?_
        have hm28 : la_ok (cw_put (cw_put (y_o m25 sm g25 (2400 + n) b25 1 1 hd sa ti) m_ 50 0) m_ 50 0) := la_put hm27 (by decide) (Or.inl rfl)
        refine And.intro (show -2147483648 ≤ g25 + 1 ∧ g25 + 1 < 2147483648 by omega) ?_
        have hm29 : la_ok (cw_put (cw_put (cw_put (y_o m25 sm g25 (2400 + n) b25 1 1 hd sa ti) m_ 50 0) m_ 50 0) m_ 22 (g25 + 1)) := la_put hm28 (by decide) (Or.inl rfl)
        show Q none (cw_put (cw_put (cw_put (y_o m25 sm g25 (2400 + n) b25 1 1 hd sa ti) m_ 50 0) m_ 50 0) m_ 22 (g25 + 1))
        rw [y_o_fti, y_o_fti, y_o_fgo]
        have hm30 : la_ok (y_o m25 sm (g25 + 1) (2400 + n) b25 1 1 hd sa 0) := y_o_ok hm25
        have hgo : g25 + 1 = 2400 + i1 + 1 := by omega
        rw [hgo]
        have hho : KK.2.2.2.1 = 1 := by rw [hK]
        rw [hho] at h
        refine h _ _ _ hm25 hr25 hO25 (by omega) ?_
        intro z
        have q := hT25.2.2.1 ⟨z, rfl⟩
        rw [hK]
        show _ ↔ k_hd (some T) E
        constructor
        · intro y t ht
          have ht := Option.some.inj ht
          rw [← ht]
          cases hz : T E with
          | none => exact absurd (q.2 hz) (by omega)
          | some x => have := q.1 x hz; rw [show x = 1 by omega]
        · intro y
          have := q.1 1 (y T rfl)
          omega
      · refine And.intro (Or.inr rfl) ?_
        have hm31 : la_ok (cw_put (y_o m25 sm g25 (2400 + n) b25 1 1 hd sa ti) m_ 50 1) := la_put (y_o_ok hm25) (by decide) (Or.inl rfl)
        refine br_f (show ¬ ((1 : Int) = 0) by decide) ?_
        refine And.intro (fun (c32 : b25 ≠ 0) => ?_) (fun (c32 : ¬ (b25 ≠ 0)) => ?_)
        · refine And.intro (Or.inl rfl) ?_
          have hm33 : la_ok (cw_put (cw_put (y_o m25 sm g25 (2400 + n) b25 1 1 hd sa ti) m_ 50 1) m_ 50 0) := la_put hm31 (by decide) (Or.inl rfl)
          refine And.intro (show -2147483648 ≤ g25 + 1 ∧ g25 + 1 < 2147483648 by omega) ?_
          have hm34 : la_ok (cw_put (cw_put (cw_put (y_o m25 sm g25 (2400 + n) b25 1 1 hd sa ti) m_ 50 1) m_ 50 0) m_ 22 (g25 + 1)) := la_put hm33 (by decide) (Or.inl rfl)
          show Q none (cw_put (cw_put (cw_put (y_o m25 sm g25 (2400 + n) b25 1 1 hd sa ti) m_ 50 1) m_ 50 0) m_ 22 (g25 + 1))
          rw [y_o_fti, y_o_fti, y_o_fgo]
          have hm35 : la_ok (y_o m25 sm (g25 + 1) (2400 + n) b25 1 1 hd sa 0) := y_o_ok hm25
          have hgo : g25 + 1 = 2400 + i1 + 1 := by omega
          rw [hgo]
          have hho : KK.2.2.2.1 = 1 := by rw [hK]
          rw [hho] at h
          refine h _ _ _ hm25 hr25 hO25 (by omega) ?_
          intro z
          have q := hT25.2.2.1 ⟨z, rfl⟩
          rw [hK]
          show _ ↔ k_hd (some T) E
          constructor
          · intro y t ht
            have ht := Option.some.inj ht
            rw [← ht]
            cases hz : T E with
            | none => exact absurd (q.2 hz) (by omega)
            | some x => have := q.1 x hz; rw [show x = 1 by omega]
          · intro y
            have := q.1 1 (y T rfl)
            omega
        · refine And.intro (Or.inr rfl) ?_
          have hm36 : la_ok (cw_put (cw_put (y_o m25 sm g25 (2400 + n) b25 1 1 hd sa ti) m_ 50 1) m_ 50 1) := la_put hm31 (by decide) (Or.inl rfl)
          refine And.intro (show -2147483648 ≤ g25 + 1 ∧ g25 + 1 < 2147483648 by omega) ?_
          have hm37 : la_ok (cw_put (cw_put (cw_put (y_o m25 sm g25 (2400 + n) b25 1 1 hd sa ti) m_ 50 1) m_ 50 1) m_ 22 (g25 + 1)) := la_put hm36 (by decide) (Or.inl rfl)
          show Q none (cw_put (cw_put (cw_put (y_o m25 sm g25 (2400 + n) b25 1 1 hd sa ti) m_ 50 1) m_ 50 1) m_ 22 (g25 + 1))
          rw [y_o_fti, y_o_fti, y_o_fgo]
          have hm38 : la_ok (y_o m25 sm (g25 + 1) (2400 + n) b25 1 1 hd sa 1) := y_o_ok hm25
          have hgo : g25 + 1 = 2400 + i1 + 1 := by omega
          rw [hgo]
          have hho : KK.2.2.2.1 = 1 := by rw [hK]
          rw [hho] at h
          refine h _ _ _ hm25 hr25 hO25 (by omega) ?_
          intro z
          have q := hT25.2.2.1 ⟨z, rfl⟩
          rw [hK]
          show _ ↔ k_hd (some T) E
          constructor
          · intro y t ht
            have ht := Option.some.inj ht
            rw [← ht]
            cases hz : T E with
            | none => exact absurd (q.2 hz) (by omega)
            | some x => have := q.1 x hz; rw [show x = 1 by omega]
          · intro y
            have := q.1 1 (y T rfl)
            omega
    · have q5 := q5
      refine la_go_R hm 38 [] ?_
      have hm21 : la_ok (cw_put (y_o m sm go (2400 + n) bk 1 ho hd sa ti) m_ 47 1) := la_put hm (by decide) (Or.inl rfl)
      show cw_C _ _ [vr m_, vi 13] (cw_put (y_o m sm go (2400 + n) bk 1 ho hd sa ti) m_ 47 1) _
      rw [y_o_fho]
      have hm22 : la_ok (y_o m sm go (2400 + n) bk 1 1 hd sa ti) := y_o_ok hm0
      refine O_pass0 hm0 hO (i0 := i0) (by omega) (by omega) (by omega) (by omega) ⟨hm22, ?_⟩
      refine br_t (show (0 : Int) = 0 by decide) ?_
      refine And.intro (Or.inl rfl) ?_
      have hm23 : la_ok (cw_put (y_o m sm go (2400 + n) bk 1 1 hd sa ti) m_ 24 0) := la_put hm22 (by decide) (Or.inl rfl)
      show cw_C _ _ [vr m_, vi 4] (cw_put (y_o m sm go (2400 + n) bk 1 1 hd sa ti) m_ 24 0) _
      rw [y_o_fbk]
      have hm24 : la_ok (y_o m sm go (2400 + n) 0 1 1 hd sa ti) := y_o_ok hm0
      refine O_pass0 hm0 hO (i0 := i3) (by omega) (by omega) (by omega) (by omega) ⟨hm24, ?_⟩
      refine br_t (show (0 : Int) = 0 by decide) ?_
      refine And.intro (Or.inr rfl) ?_
      have hm25 : la_ok (cw_put (y_o m sm go (2400 + n) 0 1 1 hd sa ti) m_ 50 1) := la_put hm24 (by decide) (Or.inl rfl)
      refine br_f (show ¬ ((1 : Int) = 0) by decide) ?_
      refine br_f (show ¬ ((0 : Int) ≠ 0) by decide) ?_
      refine And.intro (Or.inr rfl) ?_
      have hm26 : la_ok (cw_put (cw_put (y_o m sm go (2400 + n) 0 1 1 hd sa ti) m_ 50 1) m_ 50 1) := la_put hm25 (by decide) (Or.inl rfl)
      refine And.intro (show -2147483648 ≤ go + 1 ∧ go + 1 < 2147483648 by omega) ?_
      have hm27 : la_ok (cw_put (cw_put (cw_put (y_o m sm go (2400 + n) 0 1 1 hd sa ti) m_ 50 1) m_ 50 1) m_ 22 (go + 1)) := la_put hm26 (by decide) (Or.inl rfl)
      show Q none (cw_put (cw_put (cw_put (y_o m sm go (2400 + n) 0 1 1 hd sa ti) m_ 50 1) m_ 50 1) m_ 22 (go + 1))
      rw [y_o_fti, y_o_fti, y_o_fgo]
      have hm28 : la_ok (y_o m sm (go + 1) (2400 + n) 0 1 1 hd sa 1) := y_o_ok hm0
      have hgo : go + 1 = 2400 + i1 + 1 := by omega
      rw [hgo]
      have hho : KK.2.2.2.1 = 1 := by rw [hK]
      rw [hho] at h
      refine h _ _ _ hm0 Z_Br hO (by omega) ?_
      intro z
      rw [hK]
      exact ⟨fun _ t ht => (by cases ht), fun _ => by omega⟩
theorem M_goesAlong {d : Nat} {m : cw_M} {Q : Option cw_V → cw_M → Prop} {c v E sm : Int → Int} {n go ge bk io ho hd sa ti lv i0 l i1 l1 : Int} {KK : p_K} (hm0 : la_ok m) (hO : O_h m c v n E) (h0 : 0 ≤ i0) (h1 : i0 ≤ n) (hl0 : 0 ≤ l) (hl1 : l ≤ 50) (hlv : lv = 0 ∨ lv = 1) (h46 : m m_ 46 = 2400 + i0) (hp : p_one c v true i0 l = .ok (i1, l1, KK)) (h : (∀ m2 sm2 b2 s2 t2, la_ok m2 → Z_B m m2 → O_h m2 c v n E → (s2 = 0 ∨ s2 = 1) → (t2 = 0 ∨ t2 = 1) → (lv = 1 → (t2 = 1 ↔ k_hd KK.2.2.2.2 E)) → (lv = 1 → ((s2 = 1 → (KK.1 ≤ 2 → KK.2.1 E = some (sm2 0)) ∧ (KK.1 ≤ 1 → KK.2.2.1 E = some (sm2 1))) ∧ (s2 = 0 → (KK.1 ≤ 2 ∧ KK.2.1 E = none) ∨ (KK.1 ≤ 1 ∧ KK.2.2.1 E = none)))) → Q none (y_o m2 sm2 (2400 + i1 + 1) (2400 + n) b2 1 KK.2.2.2.1 (c i0) s2 t2))) : cw_C (d + 76) k_M_goesAlong [vr m_, vi (2400 + n), vi lv] (y_o m sm go ge bk io ho hd sa ti) Q := by
  have hm : la_ok (y_o m sm go ge bk io ho hd sa ti) := y_o_ok hm0
  have yn := hO.1
  have hlt : ∀ z, c z ≠ 0 → z ≤ n → z < n := fun z q z1 => by
    by_cases e : z = n
    · rw [e, hO.2.1] at q; exact absurd rfl q
    · omega
  have pt : ∀ {h2 i l : Int} {A B : p_D}, p_tim c v true h2 A B i l = .ok (i1, l1, KK) → KK.1 = h2 ∧ KK.2.1 = A ∧ KK.2.2.1 = B := fun e => by
    rcases p_timI e with ⟨-, -, -, -, e4⟩ | ⟨-, e4⟩
    · rcases p_iftI e4 with ⟨-, T, -, hK⟩ | ⟨-, -, -, hK⟩ <;> rw [hK] <;> exact ⟨rfl, rfl, rfl⟩
    · rcases p_iftI e4 with ⟨-, T, -, hK⟩ | ⟨-, -, -, hK⟩ <;> rw [hK] <;> exact ⟨rfl, rfl, rfl⟩
  have two : ∀ {h2 w : Int}, (c i0 = 20 ∨ c i0 = 23) → h2 ≤ 1 → w ≠ 0 → p_two c v true h2 w i0 l = .ok (i1, l1, KK) → cw_C (d + 76) k_M_goesAlong [vr m_, vi (2400 + n), vi lv] (y_o m sm go ge bk io ho hd sa ti) Q := by
    intro h2 w qc qh qw e
    obtain ⟨i2, l2, A, i3, l3, B, e2, q2, e5, e6⟩ := p_twoI e
    obtain ⟨hKh, hKA, hKB⟩ := pt e6
    have i0n := hlt i0 (by omega) h1
    have N2 := p_Nok ((p_sN (c := c) (v := v) (o := true) hO.2.1 2100 (dp := 0) (i := i0 + 1) (l := l) (acc := p_z) (by omega) (by omega) (by omega) (by omega)).2.2.2.1 (by omega)) e2
    have i2n := hlt i2 (by omega) (by omega)
    have N5 := p_Nok ((p_sN (c := c) (v := v) (o := true) hO.2.1 2100 (dp := 0) (i := i2 + 1) (l := l2) (acc := p_z) (by omega) (by omega) (by omega) (by omega)).2.2.2.1 (by omega)) e5
    refine la_go_C hm 103 [143] ?_
    refine And.intro (Or.inr rfl) ?_
    have hm21 : la_ok (cw_put (y_o m sm go ge bk io ho hd sa ti) m_ 25 1) := la_put hm (by decide) (Or.inl rfl)
    have hm22 : la_ok (cw_put (cw_put (y_o m sm go ge bk io ho hd sa ti) m_ 25 1) m_ 23 (2400 + n)) := la_put hm21 (by decide) (Or.inl rfl)
    have hm23 : la_ok (cw_put (cw_put (cw_put (y_o m sm go ge bk io ho hd sa ti) m_ 25 1) m_ 23 (2400 + n)) m_ 22 (m m_ 46)) := la_put hm22 (by decide) (Or.inl rfl)
    show cw_C _ _ [vr m_, vi (m m_ 46)] (cw_put (cw_put (cw_put (y_o m sm go ge bk io ho hd sa ti) m_ 25 1) m_ 23 (2400 + n)) m_ 22 (m m_ 46)) _
    rw [y_o_fio, y_o_fge, y_o_fgo]
    have hm24 : la_ok (y_o m sm (m m_ 46) (2400 + n) bk 1 ho hd sa ti) := y_o_ok hm0
    refine O_code hm0 hO (i0 := i0) (by omega) (by omega) (by omega) ⟨hm24, ?_⟩
    have hm25 : la_ok (cw_put (y_o m sm (m m_ 46) (2400 + n) bk 1 ho hd sa ti) m_ 48 (c i0)) := la_put hm24 (by decide) (Or.inl rfl)
    refine And.intro (show -2147483648 ≤ (m m_ 46) + 1 ∧ (m m_ 46) + 1 < 2147483648 by omega) ?_
    have hm26 : la_ok (cw_put (cw_put (y_o m sm (m m_ 46) (2400 + n) bk 1 ho hd sa ti) m_ 48 (c i0)) m_ 22 ((m m_ 46) + 1)) := la_put hm25 (by decide) (Or.inl rfl)
    refine And.intro (Or.inr rfl) ?_
    have hm27 : la_ok (cw_put (cw_put (cw_put (y_o m sm (m m_ 46) (2400 + n) bk 1 ho hd sa ti) m_ 48 (c i0)) m_ 22 ((m m_ 46) + 1)) m_ 49 1) := la_put hm26 (by decide) (Or.inl rfl)
    refine br_t (show c i0 ≠ 26 by omega) ?_
    refine br_t (show c i0 ≠ 25 by omega) ?_
    refine br_f (show ¬ ((2 : Int) ≤ 0) by decide) ?_
    refine br_t (show (0 : Int) ≤ 0 by decide) ?_
    refine And.intro (Or.inl rfl) ?_
    have hm28 : la_ok (cw_put (cw_put (cw_put (cw_put (y_o m sm (m m_ 46) (2400 + n) bk 1 ho hd sa ti) m_ 48 (c i0)) m_ 22 ((m m_ 46) + 1)) m_ 49 1) m_ 24 0) := la_put hm27 (by decide) (Or.inl rfl)
    show cw_C _ _ [vr m_, vi lv] (cw_put (cw_put (cw_put (cw_put (y_o m sm (m m_ 46) (2400 + n) bk 1 ho hd sa ti) m_ 48 (c i0)) m_ 22 ((m m_ 46) + 1)) m_ 49 1) m_ 24 0) _
    rw [y_o_fhd, y_o_fgo, y_o_fsa, y_o_fbk]
    have hm29 : la_ok (y_o m sm ((m m_ 46) + 1) (2400 + n) 0 1 ho (c i0) 1 ti) := y_o_ok hm0
    refine O_sum hm0 hO (i0 := i0 + 1) (l := l) (by omega) (by omega) (by omega) (by omega) (by omega) (by omega) (by omega) e2 (fun (m30 : cw_M) (g30 v30 b30 : Int) (hm30 : la_ok m30) (hz30 : Z_B m m30) (hO30 : O_h m30 c v n E) (hg30 : g30 = 2400 + i2) (hW30 : W_s lv 0 (A E) v30 b30) => ⟨(y_o_ok hm30), ?_⟩)
    have hr30 : Z_B m m30 := hz30
    have wb30 := hW30.1
    have wr30 := hW30.2.1
    refine And.intro (show 0 ≤ 0 ∧ 0 < 2 by omega) ?_
    have hm31 : la_ok (cw_put (y_o m30 sm g30 (2400 + n) b30 1 ho (c i0) 1 ti) m_sums_ 0 v30) := la_put (y_o_ok hm30) (by decide) (Or.inr (by decide))
    refine br_f (show ¬ ((1 : Int) = 0) by decide) ?_
    refine And.intro (fun (c32 : b30 ≠ 0) => ?_) (fun (c32 : ¬ (b30 ≠ 0)) => ?_)
    · refine And.intro (Or.inl rfl) ?_
      have hm33 : la_ok (cw_put (cw_put (y_o m30 sm g30 (2400 + n) b30 1 ho (c i0) 1 ti) m_sums_ 0 v30) m_ 49 0) := la_put hm31 (by decide) (Or.inl rfl)
      refine And.intro (show -2147483648 ≤ 1 ∧ 1 < 2147483648 by omega) ?_
      refine br_f (show ¬ ((2 : Int) ≤ 1) by decide) ?_
      refine br_f (show ¬ ((1 : Int) ≤ 0) by decide) ?_
      refine And.intro (show -2147483648 ≤ g30 + 1 ∧ g30 + 1 < 2147483648 by omega) ?_
      have hm34 : la_ok (cw_put (cw_put (cw_put (y_o m30 sm g30 (2400 + n) b30 1 ho (c i0) 1 ti) m_sums_ 0 v30) m_ 49 0) m_ 22 (g30 + 1)) := la_put hm33 (by decide) (Or.inl rfl)
      refine And.intro (Or.inl rfl) ?_
      have hm35 : la_ok (cw_put (cw_put (cw_put (cw_put (y_o m30 sm g30 (2400 + n) b30 1 ho (c i0) 1 ti) m_sums_ 0 v30) m_ 49 0) m_ 22 (g30 + 1)) m_ 24 0) := la_put hm34 (by decide) (Or.inl rfl)
      show cw_C _ _ [vr m_, vi lv] (cw_put (cw_put (cw_put (cw_put (y_o m30 sm g30 (2400 + n) b30 1 ho (c i0) 1 ti) m_sums_ 0 v30) m_ 49 0) m_ 22 (g30 + 1)) m_ 24 0) _
      rw [y_o_psm, y_o_fsa, y_o_fgo, y_o_fbk]
      have hm36 : la_ok (y_o m30 (cw_up sm 0 v30) (g30 + 1) (2400 + n) 0 1 ho (c i0) 0 ti) := y_o_ok hm30
      refine O_sum hm30 hO30 (i0 := i2 + 1) (l := l2) (by omega) (by omega) (by omega) (by omega) (by omega) (by omega) (by omega) e5 (fun (m37 : cw_M) (g37 v37 b37 : Int) (hm37 : la_ok m37) (hz37 : Z_B m30 m37) (hO37 : O_h m37 c v n E) (hg37 : g37 = 2400 + i3) (hW37 : W_s lv 0 (B E) v37 b37) => ⟨(y_o_ok hm37), ?_⟩)
      have hr37 : Z_B m m37 := Z_Bt hr30 hz37
      have wb37 := hW37.1
      have wr37 := hW37.2.1
      refine And.intro (show 0 ≤ 1 ∧ 1 < 2 by omega) ?_
      have hm38 : la_ok (cw_put (y_o m37 (cw_up sm 0 v30) g37 (2400 + n) b37 1 ho (c i0) 0 ti) m_sums_ 1 v37) := la_put (y_o_ok hm37) (by decide) (Or.inr (by decide))
      refine br_t (show (0 : Int) = 0 by decide) ?_
      refine And.intro (Or.inl rfl) ?_
      have hm39 : la_ok (cw_put (cw_put (y_o m37 (cw_up sm 0 v30) g37 (2400 + n) b37 1 ho (c i0) 0 ti) m_sums_ 1 v37) m_ 49 0) := la_put hm38 (by decide) (Or.inl rfl)
      refine And.intro (show -2147483648 ≤ 2 ∧ 2 < 2147483648 by omega) ?_
      refine br_t (show (2 : Int) ≤ 2 by decide) ?_
      show cw_R _ _ 143 [vr m_, vi (2400 + n), vi lv, vi 2, vi 2] [] (cw_put (cw_put (y_o m37 (cw_up sm 0 v30) g37 (2400 + n) b37 1 ho (c i0) 0 ti) m_sums_ 1 v37) m_ 49 0) _
      rw [y_o_psm, y_o_fsa]
      have hm40 : la_ok (y_o m37 (cw_up (cw_up sm 0 v30) 1 v37) g37 (2400 + n) b37 1 ho (c i0) 0 ti) := y_o_ok hm37
      refine O_143 hm37 hO37 (i0 := i3) (l := l3) (by omega) (by omega) (by omega) (by omega) hlv (by omega) e6 (fun m2 b2 t2 a1 a2 a3 a4 a5 => ?_)
      refine h m2 _ b2 _ t2 a1 (Z_Bt hr37 a2) a3 (by omega) a4 a5 (fun z => ?_)
      subst z
      have q30 := hW30.2.2.1 ⟨rfl, rfl⟩
      have q37 := hW37.2.2.1 ⟨rfl, rfl⟩
      refine ⟨fun y => ⟨fun y1 => ?_, fun y1 => ?_⟩, fun y => ?_⟩
      · rw [hKA]
        cases hz : A E with
        | none => exact absurd (q30.2 hz) (by omega)
        | some x => rw [show x = v30 from ((q30.1 x hz).1).symm]; rfl
      · rw [hKB]
        cases hz : B E with
        | none => exact absurd (q37.2 hz) (by omega)
        | some x => rw [show x = v37 from ((q37.1 x hz).1).symm]; rfl
      · rw [hKA, hKB]
        cases hz : A E with
        | none => exact Or.inl ⟨by omega, rfl⟩
        | some x =>
          cases hy : B E with
          | none => exact Or.inr ⟨by omega, rfl⟩
          | some x2 => have := q30.1 x hz; have := q37.1 x2 hy; omega
    · refine And.intro (Or.inr rfl) ?_
      have hm41 : la_ok (cw_put (cw_put (y_o m30 sm g30 (2400 + n) b30 1 ho (c i0) 1 ti) m_sums_ 0 v30) m_ 49 1) := la_put hm31 (by decide) (Or.inl rfl)
      refine And.intro (show -2147483648 ≤ 1 ∧ 1 < 2147483648 by omega) ?_
      refine br_f (show ¬ ((2 : Int) ≤ 1) by decide) ?_
      refine br_f (show ¬ ((1 : Int) ≤ 0) by decide) ?_
      refine And.intro (show -2147483648 ≤ g30 + 1 ∧ g30 + 1 < 2147483648 by omega) ?_
      have hm42 : la_ok (cw_put (cw_put (cw_put (y_o m30 sm g30 (2400 + n) b30 1 ho (c i0) 1 ti) m_sums_ 0 v30) m_ 49 1) m_ 22 (g30 + 1)) := la_put hm41 (by decide) (Or.inl rfl)
      refine And.intro (Or.inl rfl) ?_
      have hm43 : la_ok (cw_put (cw_put (cw_put (cw_put (y_o m30 sm g30 (2400 + n) b30 1 ho (c i0) 1 ti) m_sums_ 0 v30) m_ 49 1) m_ 22 (g30 + 1)) m_ 24 0) := la_put hm42 (by decide) (Or.inl rfl)
      show cw_C _ _ [vr m_, vi lv] (cw_put (cw_put (cw_put (cw_put (y_o m30 sm g30 (2400 + n) b30 1 ho (c i0) 1 ti) m_sums_ 0 v30) m_ 49 1) m_ 22 (g30 + 1)) m_ 24 0) _
      rw [y_o_psm, y_o_fsa, y_o_fgo, y_o_fbk]
      have hm44 : la_ok (y_o m30 (cw_up sm 0 v30) (g30 + 1) (2400 + n) 0 1 ho (c i0) 1 ti) := y_o_ok hm30
      refine O_sum hm30 hO30 (i0 := i2 + 1) (l := l2) (by omega) (by omega) (by omega) (by omega) (by omega) (by omega) (by omega) e5 (fun (m45 : cw_M) (g45 v45 b45 : Int) (hm45 : la_ok m45) (hz45 : Z_B m30 m45) (hO45 : O_h m45 c v n E) (hg45 : g45 = 2400 + i3) (hW45 : W_s lv 0 (B E) v45 b45) => ⟨(y_o_ok hm45), ?_⟩)
      have hr45 : Z_B m m45 := Z_Bt hr30 hz45
      have wb45 := hW45.1
      have wr45 := hW45.2.1
      refine And.intro (show 0 ≤ 1 ∧ 1 < 2 by omega) ?_
      have hm46 : la_ok (cw_put (y_o m45 (cw_up sm 0 v30) g45 (2400 + n) b45 1 ho (c i0) 1 ti) m_sums_ 1 v45) := la_put (y_o_ok hm45) (by decide) (Or.inr (by decide))
      refine br_f (show ¬ ((1 : Int) = 0) by decide) ?_
      refine And.intro (fun (c47 : b45 ≠ 0) => ?_) (fun (c47 : ¬ (b45 ≠ 0)) => ?_)
      · refine And.intro (Or.inl rfl) ?_
        have hm48 : la_ok (cw_put (cw_put (y_o m45 (cw_up sm 0 v30) g45 (2400 + n) b45 1 ho (c i0) 1 ti) m_sums_ 1 v45) m_ 49 0) := la_put hm46 (by decide) (Or.inl rfl)
        refine And.intro (show -2147483648 ≤ 2 ∧ 2 < 2147483648 by omega) ?_
        refine br_t (show (2 : Int) ≤ 2 by decide) ?_
        show cw_R _ _ 143 [vr m_, vi (2400 + n), vi lv, vi 2, vi 2] [] (cw_put (cw_put (y_o m45 (cw_up sm 0 v30) g45 (2400 + n) b45 1 ho (c i0) 1 ti) m_sums_ 1 v45) m_ 49 0) _
        rw [y_o_psm, y_o_fsa]
        have hm49 : la_ok (y_o m45 (cw_up (cw_up sm 0 v30) 1 v45) g45 (2400 + n) b45 1 ho (c i0) 0 ti) := y_o_ok hm45
        refine O_143 hm45 hO45 (i0 := i3) (l := l3) (by omega) (by omega) (by omega) (by omega) hlv (by omega) e6 (fun m2 b2 t2 a1 a2 a3 a4 a5 => ?_)
        refine h m2 _ b2 _ t2 a1 (Z_Bt hr45 a2) a3 (by omega) a4 a5 (fun z => ?_)
        subst z
        have q30 := hW30.2.2.1 ⟨rfl, rfl⟩
        have q45 := hW45.2.2.1 ⟨rfl, rfl⟩
        refine ⟨fun y => ⟨fun y1 => ?_, fun y1 => ?_⟩, fun y => ?_⟩
        · rw [hKA]
          cases hz : A E with
          | none => exact absurd (q30.2 hz) (by omega)
          | some x => rw [show x = v30 from ((q30.1 x hz).1).symm]; rfl
        · rw [hKB]
          cases hz : B E with
          | none => exact absurd (q45.2 hz) (by omega)
          | some x => rw [show x = v45 from ((q45.1 x hz).1).symm]; rfl
        · rw [hKA, hKB]
          cases hz : A E with
          | none => exact Or.inl ⟨by omega, rfl⟩
          | some x =>
            cases hy : B E with
            | none => exact Or.inr ⟨by omega, rfl⟩
            | some x2 => have := q30.1 x hz; have := q45.1 x2 hy; omega
      · refine And.intro (Or.inr rfl) ?_
        have hm50 : la_ok (cw_put (cw_put (y_o m45 (cw_up sm 0 v30) g45 (2400 + n) b45 1 ho (c i0) 1 ti) m_sums_ 1 v45) m_ 49 1) := la_put hm46 (by decide) (Or.inl rfl)
        refine And.intro (show -2147483648 ≤ 2 ∧ 2 < 2147483648 by omega) ?_
        refine br_t (show (2 : Int) ≤ 2 by decide) ?_
        show cw_R _ _ 143 [vr m_, vi (2400 + n), vi lv, vi 2, vi 2] [] (cw_put (cw_put (y_o m45 (cw_up sm 0 v30) g45 (2400 + n) b45 1 ho (c i0) 1 ti) m_sums_ 1 v45) m_ 49 1) _
        rw [y_o_psm, y_o_fsa]
        have hm51 : la_ok (y_o m45 (cw_up (cw_up sm 0 v30) 1 v45) g45 (2400 + n) b45 1 ho (c i0) 1 ti) := y_o_ok hm45
        refine O_143 hm45 hO45 (i0 := i3) (l := l3) (by omega) (by omega) (by omega) (by omega) hlv (by omega) e6 (fun m2 b2 t2 a1 a2 a3 a4 a5 => ?_)
        refine h m2 _ b2 _ t2 a1 (Z_Bt hr45 a2) a3 (by omega) a4 a5 (fun z => ?_)
        subst z
        have q30 := hW30.2.2.1 ⟨rfl, rfl⟩
        have q45 := hW45.2.2.1 ⟨rfl, rfl⟩
        refine ⟨fun y => ⟨fun y1 => ?_, fun y1 => ?_⟩, fun y => ?_⟩
        · rw [hKA]
          cases hz : A E with
          | none => exact absurd (q30.2 hz) (by omega)
          | some x => rw [show x = v30 from ((q30.1 x hz).1).symm]; rfl
        · rw [hKB]
          cases hz : B E with
          | none => exact absurd (q45.2 hz) (by omega)
          | some x => rw [show x = v45 from ((q45.1 x hz).1).symm]; rfl
        · rw [hKA, hKB]
          cases hz : A E with
          | none => exact Or.inl ⟨by omega, rfl⟩
          | some x =>
            cases hy : B E with
            | none => exact Or.inr ⟨by omega, rfl⟩
            | some x2 => have := q30.1 x hz; have := q45.1 x2 hy; omega
  rcases p_oneOi hp with ⟨q1, e⟩ | ⟨q1, e⟩ | ⟨q1, i2, l2, A, e2, e6⟩ | ⟨q1, e6⟩
  · exact two (Or.inl q1) (by decide) (by decide) e
  · exact two (Or.inr q1) (by decide) (by decide) e
  · obtain ⟨hKh, hKA, hKB⟩ := pt e6
    have i0n := hlt i0 (by omega) h1
    have N2 := p_Nok ((p_sN (c := c) (v := v) (o := true) hO.2.1 2100 (dp := 0) (i := i0 + 1) (l := l) (acc := p_z) (by omega) (by omega) (by omega) (by omega)).2.2.2.1 (by omega)) e2
    refine la_go_C hm 71 [143] ?_
    refine And.intro (Or.inr rfl) ?_
    have hm21 : la_ok (cw_put (y_o m sm go ge bk io ho hd sa ti) m_ 25 1) := la_put hm (by decide) (Or.inl rfl)
    have hm22 : la_ok (cw_put (cw_put (y_o m sm go ge bk io ho hd sa ti) m_ 25 1) m_ 23 (2400 + n)) := la_put hm21 (by decide) (Or.inl rfl)
    have hm23 : la_ok (cw_put (cw_put (cw_put (y_o m sm go ge bk io ho hd sa ti) m_ 25 1) m_ 23 (2400 + n)) m_ 22 (m m_ 46)) := la_put hm22 (by decide) (Or.inl rfl)
    show cw_C _ _ [vr m_, vi (m m_ 46)] (cw_put (cw_put (cw_put (y_o m sm go ge bk io ho hd sa ti) m_ 25 1) m_ 23 (2400 + n)) m_ 22 (m m_ 46)) _
    rw [y_o_fio, y_o_fge, y_o_fgo]
    have hm24 : la_ok (y_o m sm (m m_ 46) (2400 + n) bk 1 ho hd sa ti) := y_o_ok hm0
    refine O_code hm0 hO (i0 := i0) (by omega) (by omega) (by omega) ⟨hm24, ?_⟩
    have hm25 : la_ok (cw_put (y_o m sm (m m_ 46) (2400 + n) bk 1 ho hd sa ti) m_ 48 (c i0)) := la_put hm24 (by decide) (Or.inl rfl)
    refine And.intro (show -2147483648 ≤ (m m_ 46) + 1 ∧ (m m_ 46) + 1 < 2147483648 by omega) ?_
    have hm26 : la_ok (cw_put (cw_put (y_o m sm (m m_ 46) (2400 + n) bk 1 ho hd sa ti) m_ 48 (c i0)) m_ 22 ((m m_ 46) + 1)) := la_put hm25 (by decide) (Or.inl rfl)
    refine And.intro (Or.inr rfl) ?_
    have hm27 : la_ok (cw_put (cw_put (cw_put (y_o m sm (m m_ 46) (2400 + n) bk 1 ho hd sa ti) m_ 48 (c i0)) m_ 22 ((m m_ 46) + 1)) m_ 49 1) := la_put hm26 (by decide) (Or.inl rfl)
    refine br_t (show c i0 ≠ 26 by omega) ?_
    refine br_f (show ¬ (c i0 ≠ 25) by omega) ?_
    refine br_f (show ¬ ((1 : Int) ≤ 0) by decide) ?_
    refine br_t (show (0 : Int) ≤ 0 by decide) ?_
    refine And.intro (Or.inl rfl) ?_
    have hm28 : la_ok (cw_put (cw_put (cw_put (cw_put (y_o m sm (m m_ 46) (2400 + n) bk 1 ho hd sa ti) m_ 48 (c i0)) m_ 22 ((m m_ 46) + 1)) m_ 49 1) m_ 24 0) := la_put hm27 (by decide) (Or.inl rfl)
    show cw_C _ _ [vr m_, vi lv] (cw_put (cw_put (cw_put (cw_put (y_o m sm (m m_ 46) (2400 + n) bk 1 ho hd sa ti) m_ 48 (c i0)) m_ 22 ((m m_ 46) + 1)) m_ 49 1) m_ 24 0) _
    rw [y_o_fhd, y_o_fgo, y_o_fsa, y_o_fbk]
    have hm29 : la_ok (y_o m sm ((m m_ 46) + 1) (2400 + n) 0 1 ho (c i0) 1 ti) := y_o_ok hm0
    refine O_sum hm0 hO (i0 := i0 + 1) (l := l) (by omega) (by omega) (by omega) (by omega) (by omega) (by omega) (by omega) e2 (fun (m30 : cw_M) (g30 v30 b30 : Int) (hm30 : la_ok m30) (hz30 : Z_B m m30) (hO30 : O_h m30 c v n E) (hg30 : g30 = 2400 + i2) (hW30 : W_s lv 0 (A E) v30 b30) => ⟨(y_o_ok hm30), ?_⟩)
    have hr30 : Z_B m m30 := hz30
    have wb30 := hW30.1
    have wr30 := hW30.2.1
    refine And.intro (show 0 ≤ 0 ∧ 0 < 2 by omega) ?_
    have hm31 : la_ok (cw_put (y_o m30 sm g30 (2400 + n) b30 1 ho (c i0) 1 ti) m_sums_ 0 v30) := la_put (y_o_ok hm30) (by decide) (Or.inr (by decide))
    refine br_f (show ¬ ((1 : Int) = 0) by decide) ?_
    refine And.intro (fun (c32 : b30 ≠ 0) => ?_) (fun (c32 : ¬ (b30 ≠ 0)) => ?_)
    · refine And.intro (Or.inl rfl) ?_
      have hm33 : la_ok (cw_put (cw_put (y_o m30 sm g30 (2400 + n) b30 1 ho (c i0) 1 ti) m_sums_ 0 v30) m_ 49 0) := la_put hm31 (by decide) (Or.inl rfl)
      refine And.intro (show -2147483648 ≤ 1 ∧ 1 < 2147483648 by omega) ?_
      refine br_t (show (1 : Int) ≤ 1 by decide) ?_
      show cw_R _ _ 143 [vr m_, vi (2400 + n), vi lv, vi 1, vi 1] [] (cw_put (cw_put (y_o m30 sm g30 (2400 + n) b30 1 ho (c i0) 1 ti) m_sums_ 0 v30) m_ 49 0) _
      rw [y_o_psm, y_o_fsa]
      have hm34 : la_ok (y_o m30 (cw_up sm 0 v30) g30 (2400 + n) b30 1 ho (c i0) 0 ti) := y_o_ok hm30
      refine O_143 hm30 hO30 (i0 := i2) (l := l2) (by omega) (by omega) (by omega) (by omega) hlv (by omega) e6 (fun m2 b2 t2 a1 a2 a3 a4 a5 => ?_)
      refine h m2 _ b2 _ t2 a1 (Z_Bt hr30 a2) a3 (by omega) a4 a5 (fun z => ?_)
      subst z
      have q30 := hW30.2.2.1 ⟨rfl, rfl⟩
      refine ⟨fun y => ⟨fun y1 => ?_, fun y1 => ?_⟩, fun y => ?_⟩
      · rw [hKA]
        cases hz : A E with
        | none => exact absurd (q30.2 hz) (by omega)
        | some x => rw [show x = v30 from ((q30.1 x hz).1).symm]; rfl
      · omega
      · rw [hKA]
        cases hz : A E with
        | none => exact Or.inl ⟨by omega, rfl⟩
        | some x => have := q30.1 x hz; omega
    · refine And.intro (Or.inr rfl) ?_
      have hm35 : la_ok (cw_put (cw_put (y_o m30 sm g30 (2400 + n) b30 1 ho (c i0) 1 ti) m_sums_ 0 v30) m_ 49 1) := la_put hm31 (by decide) (Or.inl rfl)
      refine And.intro (show -2147483648 ≤ 1 ∧ 1 < 2147483648 by omega) ?_
      refine br_t (show (1 : Int) ≤ 1 by decide) ?_
      show cw_R _ _ 143 [vr m_, vi (2400 + n), vi lv, vi 1, vi 1] [] (cw_put (cw_put (y_o m30 sm g30 (2400 + n) b30 1 ho (c i0) 1 ti) m_sums_ 0 v30) m_ 49 1) _
      rw [y_o_psm, y_o_fsa]
      have hm36 : la_ok (y_o m30 (cw_up sm 0 v30) g30 (2400 + n) b30 1 ho (c i0) 1 ti) := y_o_ok hm30
      refine O_143 hm30 hO30 (i0 := i2) (l := l2) (by omega) (by omega) (by omega) (by omega) hlv (by omega) e6 (fun m2 b2 t2 a1 a2 a3 a4 a5 => ?_)
      refine h m2 _ b2 _ t2 a1 (Z_Bt hr30 a2) a3 (by omega) a4 a5 (fun z => ?_)
      subst z
      have q30 := hW30.2.2.1 ⟨rfl, rfl⟩
      refine ⟨fun y => ⟨fun y1 => ?_, fun y1 => ?_⟩, fun y => ?_⟩
      · rw [hKA]
        cases hz : A E with
        | none => exact absurd (q30.2 hz) (by omega)
        | some x => rw [show x = v30 from ((q30.1 x hz).1).symm]; rfl
      · omega
      · rw [hKA]
        cases hz : A E with
        | none => exact Or.inl ⟨by omega, rfl⟩
        | some x => have := q30.1 x hz; omega
  · obtain ⟨hKh, hKA, hKB⟩ := pt e6
    have i0n := hlt i0 (by omega) h1
    refine la_go_C hm 40 [143] ?_
    refine And.intro (Or.inr rfl) ?_
    have hm21 : la_ok (cw_put (y_o m sm go ge bk io ho hd sa ti) m_ 25 1) := la_put hm (by decide) (Or.inl rfl)
    have hm22 : la_ok (cw_put (cw_put (y_o m sm go ge bk io ho hd sa ti) m_ 25 1) m_ 23 (2400 + n)) := la_put hm21 (by decide) (Or.inl rfl)
    have hm23 : la_ok (cw_put (cw_put (cw_put (y_o m sm go ge bk io ho hd sa ti) m_ 25 1) m_ 23 (2400 + n)) m_ 22 (m m_ 46)) := la_put hm22 (by decide) (Or.inl rfl)
    show cw_C _ _ [vr m_, vi (m m_ 46)] (cw_put (cw_put (cw_put (y_o m sm go ge bk io ho hd sa ti) m_ 25 1) m_ 23 (2400 + n)) m_ 22 (m m_ 46)) _
    rw [y_o_fio, y_o_fge, y_o_fgo]
    have hm24 : la_ok (y_o m sm (m m_ 46) (2400 + n) bk 1 ho hd sa ti) := y_o_ok hm0
    refine O_code hm0 hO (i0 := i0) (by omega) (by omega) (by omega) ⟨hm24, ?_⟩
    have hm25 : la_ok (cw_put (y_o m sm (m m_ 46) (2400 + n) bk 1 ho hd sa ti) m_ 48 (c i0)) := la_put hm24 (by decide) (Or.inl rfl)
    refine And.intro (show -2147483648 ≤ (m m_ 46) + 1 ∧ (m m_ 46) + 1 < 2147483648 by omega) ?_
    have hm26 : la_ok (cw_put (cw_put (y_o m sm (m m_ 46) (2400 + n) bk 1 ho hd sa ti) m_ 48 (c i0)) m_ 22 ((m m_ 46) + 1)) := la_put hm25 (by decide) (Or.inl rfl)
    refine And.intro (Or.inr rfl) ?_
    have hm27 : la_ok (cw_put (cw_put (cw_put (y_o m sm (m m_ 46) (2400 + n) bk 1 ho hd sa ti) m_ 48 (c i0)) m_ 22 ((m m_ 46) + 1)) m_ 49 1) := la_put hm26 (by decide) (Or.inl rfl)
    refine br_f (show ¬ (c i0 ≠ 26) by omega) ?_
    refine br_t (show (0 : Int) ≤ 0 by decide) ?_
    show cw_R _ _ 143 [vr m_, vi (2400 + n), vi lv, vi 0, vi 0] [] (cw_put (cw_put (cw_put (y_o m sm (m m_ 46) (2400 + n) bk 1 ho hd sa ti) m_ 48 (c i0)) m_ 22 ((m m_ 46) + 1)) m_ 49 1) _
    rw [y_o_fhd, y_o_fgo, y_o_fsa]
    have hm28 : la_ok (y_o m sm ((m m_ 46) + 1) (2400 + n) bk 1 ho (c i0) 1 ti) := y_o_ok hm0
    refine O_143 hm0 hO (i0 := (i0 + 1)) (l := l) (by omega) (by omega) (by omega) (by omega) hlv (by omega) e6 (fun m2 b2 t2 a1 a2 a3 a4 a5 => ?_)
    refine h m2 _ b2 _ t2 a1 (Z_Bt Z_Br a2) a3 (by omega) a4 a5 (fun z => ?_)
    subst z
    exact ⟨fun _ => ⟨fun y => by omega, fun y => by omega⟩, fun y => by omega⟩
