/-! Gone back to an image, by both (wip/whole/tools/m158.py). -/
def cf_W (k : Int) : Int := if k = 1 then x_will_owner_ else if k = 2 then x_will_kinds_ else if k = 3 then x_will_marks_ else if k = 5 then x_will_terms_ else if k = 7 then x_will_held_ else if k = 9 then x_will_toldOf_ else if k = 10 then x_will_toldMuch_ else x_will_lawAt_
def cf_O (k : Int) : Int := if k = 1 then x_before_owner_ else if k = 2 then x_before_kinds_ else if k = 3 then x_before_marks_ else if k = 5 then x_before_terms_ else if k = 7 then x_before_held_ else if k = 9 then x_before_toldOf_ else if k = 10 then x_before_toldMuch_ else x_before_lawAt_
def cf_J (c : Int) (k : Int) : Int := if k = 1 then j_cd (c + 1) 7 40 else if k = 2 then j_cd (c + 2) 6 40 else if k = 3 then j_cd (c + 3) 6 40 else if k = 5 then j_cd (c + 4) 4 40 else if k = 7 then j_cd (c + 5) 5 40 else if k = 9 then j_cd (c + 6) 6 40 else if k = 10 then j_cd (c + 7) 6 40 else j_cd (c + 8) 6 44
theorem cf_k8 {k : Int} (h : k ∈ cf_K) : k = 1 ∨ k = 2 ∨ k = 3 ∨ k = 5 ∨ k = 7 ∨ k = 9 ∨ k = 10 ∨ k = 12 := by
  unfold cf_K at h
  simpa using h
theorem cf_ok {m X : cw_M} {D S : Int} {A B : Int → Int} (hm : la_ok m) (hZ : cf_Z m D S A B X) (hA : ∀ k ∈ cf_K, 12 ≤ cw_tg (A k) ∧ A k ≠ -1) (hD : ∀ e ∈ la_l, e.1 = D → e.2.1 ∉ [13, 11, 8, 6, 4, 0]) (hn : D ≠ -1) : la_ok X := by
  refine ⟨by rw [hZ.1 (-1) (fun q => hn q.symm) (fun k hk q => (hA k hk).2 q.symm)]; exact hm.1, fun e he => ?_⟩
  by_cases q : e.1 = D
  · rw [q, hZ.2.1, if_neg (hD e he q), ← q]; exact hm.2 e he
  · rw [hZ.1 e.1 q (fun k hk z => by have a := (la_lok e he).2.1.1; have b := (hA k hk).1; rw [← z] at b; omega)]; exact hm.2 e he
theorem cf_lW {m : cw_M} (hm : la_ok m) : ∀ k ∈ cf_K, m x_will_ k = cf_W k ∧ m x_before_ k = cf_O k := by
  intro k hk
  rcases cf_k8 hk with e | e | e | e | e | e | e | e <;> subst e <;> exact ⟨la_get hm (by decide) (by decide) (by decide), la_get hm (by decide) (by decide) (by decide)⟩
theorem cf_jk {m : cw_M} {J c : Int} (hw : j_w m J c) : ∀ k ∈ cf_K, m J k = cf_J c k := by
  obtain ⟨w0, w1, w2, w3, w5, w7, w9, w10, w12⟩ := hw
  intro k hk
  rcases cf_k8 hk with e | e | e | e | e | e | e | e <;> subst e
  · exact w1
  · exact w2
  · exact w3
  · exact w5
  · exact w7
  · exact w9
  · exact w10
  · exact w12
/-- the codes of an image's rows -/
theorem cf_jr {c k : Int} (hc : 124 ≤ c) (hk : k ∈ cf_K) : (130023424 ≤ cf_J c k ∧ (c + 1) * 1048576 ≤ cf_J c k ∧ cf_J c k < (c + 9) * 1048576) ∧ (cw_ln (cf_J c k) = cf_n k ∧ (if k = 12 then cw_tg (cf_J c k) = 44 else cw_tg (cf_J c k) = 40)) := by
  rcases cf_k8 hk with e | e | e | e | e | e | e | e <;> subst e <;> (unfold cf_J cf_n cw_ln cw_tg j_cd; simp (config := { decide := true }) only [if_true, if_false, reduceIte]; omega)
theorem cf_ji {c k k' : Int} (hk : k ∈ cf_K) (hk' : k' ∈ cf_K) (h : k ≠ k') : cf_J c k ≠ cf_J c k' := by
  rcases cf_k8 hk with e | e | e | e | e | e | e | e <;> subst e <;> (rcases cf_k8 hk' with e | e | e | e | e | e | e | e <;> subst e <;> first | exact absurd rfl h | (unfold cf_J j_cd; simp (config := { decide := true }) only [if_true, if_false, reduceIte]; omega))
theorem cf_Wr : ∀ k ∈ cf_K, (33554432 ≤ cf_W k ∧ cf_W k < m_) ∧ (cw_ln (cf_W k) = cf_n k ∧ (if k = 12 then cw_tg (cf_W k) = 44 else cw_tg (cf_W k) = 40)) ∧ cf_W k ≠ x_will_ ∧ cf_W k ≠ x_before_ := by decide
theorem cf_Wi : ∀ k ∈ cf_K, ∀ k' ∈ cf_K, k ≠ k' → cf_W k ≠ cf_W k' := by decide
theorem j_Jr {m : cw_M} {J c : Int} (hw : j_w m J c) : cw_tg J = 9 ∧ c * 1048576 ≤ J ∧ J < (c + 1) * 1048576 := by
  rw [hw.1]
  unfold j_cd cw_tg
  omega
theorem cf_hW {m : cw_M} {J c : Int} (hm : la_ok m) (hc : 124 ≤ c) (hw : j_w m J c) : cf_h m x_will_ J cf_W (cf_J c) := by
  have jr := j_Jr hw
  have mu : m_ < 130023424 := by decide
  have xw : x_will_ < 130023424 := by decide
  refine ⟨⟨by decide, jr.1, by unfold cw_own; decide, fun q => by rw [← q] at jr; omega⟩, fun k hk => ?_, fun k hk k' hk' => ⟨?_, cf_Wi k hk k' hk'⟩⟩
  · have a := cf_Wr k hk
    have b := cf_jr hc hk
    refine ⟨⟨(cf_lW hm k hk).1, cf_jk hw k hk⟩, ⟨a.2.2.1, by omega, fun q => by rw [q] at b; exact absurd b.1.1 (by decide)⟩, ⟨a.1.1, by unfold cw_own; omega⟩, by omega, ?_⟩
    by_cases e : k = 12
    · rw [if_pos e]; rw [if_pos e] at a b; exact ⟨a.2.1.2, b.2.2⟩
    · rw [if_neg e]; rw [if_neg e] at a b; exact ⟨a.2.1.2, b.2.2⟩
  · have a := cf_Wr k' hk'
    have b := cf_jr hc hk
    omega
theorem cf_hJ {m : cw_M} {J c : Int} (hm : la_ok m) (hc : 124 ≤ c) (hw : j_w m J c) : cf_h m J x_will_ (cf_J c) cf_W := by
  have jr := j_Jr hw
  have mu : m_ < 130023424 := by decide
  have xw : x_will_ < 130023424 := by decide
  refine ⟨⟨jr.1, by decide, by unfold cw_own; omega, fun q => by omega⟩, fun k hk => ?_, fun k hk k' hk' => ⟨?_, cf_ji hk hk'⟩⟩
  · have a := cf_Wr k hk
    have b := cf_jr hc hk
    refine ⟨⟨cf_jk hw k hk, (cf_lW hm k hk).1⟩, ⟨by omega, by omega, by omega⟩, ⟨by unfold cw_own; omega, a.1.1⟩, by omega, ?_⟩
    by_cases e : k = 12
    · rw [if_pos e]; rw [if_pos e] at a b; exact ⟨b.2.2, a.2.1.2⟩
    · rw [if_neg e]; rw [if_neg e] at a b; exact ⟨b.2.2, a.2.1.2⟩
  · have a := cf_Wr k hk
    have b := cf_jr hc hk'
    omega
theorem W_qc {nm lv jd td lw fc : Int} {ow kd mk tr hd of mu la ow' kd' mk' tr' hd' of' mu' la' : Int → Int} {m : cw_M} {K : Int → Int} (h : W_q nm lv jd td lw fc ow kd mk tr hd of mu la m K) (ho : ∀ i, 0 ≤ i → i < 7 → ow' i = ow i) (hk : ∀ i, 0 ≤ i → i < 6 → kd' i = kd i) (hm : ∀ i, 0 ≤ i → i < 6 → mk' i = mk i) (ht : ∀ i, 0 ≤ i → i < 4 → tr' i = tr i) (hh : ∀ i, 0 ≤ i → i < 5 → hd' i = hd i) (hf : ∀ i, 0 ≤ i → i < 6 → of' i = of i) (hu : ∀ i, 0 ≤ i → i < 6 → mu' i = mu i) (hl : ∀ i, 0 ≤ i → i < 6 → la' i = la i) (h9 : K 49 ≤ 6) : W_q nm lv jd td lw fc ow' kd' mk' tr' hd' of' mu' la' m K := by
  obtain ⟨h1, h2, h3, h4, h5, h6, h7, h8, h9', ha, hb, hc, he⟩ := h
  refine ⟨h1, fun i a b => by rw [ho i a b]; exact h2 i a b, fun i a b => by rw [hk i a b]; exact h3 i a b, fun i a b => by rw [hm i a b]; exact h4 i a b, h5, ⟨by rw [ht 0 (by decide) (by decide)]; exact h6.1, by rw [ht 1 (by decide) (by decide)]; exact h6.2.1, by rw [ht 2 (by decide) (by decide)]; exact h6.2.2.1, by rw [ht 3 (by decide) (by decide)]; exact h6.2.2.2⟩, h7, fun i a b => by rw [hh i a b]; exact h8 i a b, h9', fun i a b => by rw [hf i a b, hu i a b]; exact ha i a b, hb, hc, fun i a b => by rw [hl i a (by omega)]; exact he i a b⟩
theorem K_rq {K K' : Int → Int} (h : K_r K) (q : K_q K K') : K_r K' := by
  have e : ∀ i, 0 ≤ i → i < 57 → K' i = K i := fun i a b => (q i a (by omega) (by omega)).symm
  obtain ⟨h1, h2, h3, h4, h5, h6, h7, h8, h9, ha, hb, hc, hd, he, hg, hl⟩ := h
  refine ⟨by rw [e 46 (by decide) (by decide)]; exact h1, fun i a b => by rw [e i (by omega) (by omega)]; exact h2 i a b, fun i a b => by rw [e _ (by omega) (by omega)]; exact h3 i a b, fun i a b => by rw [e _ (by omega) (by omega)]; exact h4 i a b, by rw [e 18 (by decide) (by decide)]; exact h5, fun i a b => by rw [e _ (by omega) (by omega)]; exact h6 i a b, by rw [e 43 (by decide) (by decide)]; exact h7, by rw [e 44 (by decide) (by decide)]; exact h8, by rw [e 45 (by decide) (by decide)]; exact h9, by rw [e 47 (by decide) (by decide)]; exact ha, by rw [e 48 (by decide) (by decide)]; exact hb, by rw [e 49 (by decide) (by decide)]; exact hc, by rw [e 49 (by decide) (by decide), e 50 (by decide) (by decide)]; exact hd, fun i a b => by rw [e _ (by omega) (by omega)]; exact he i a b, fun i a b => by rw [e _ (by omega) (by omega), e _ (by omega) (by omega)]; exact hg i a b, fun i a b => ?_⟩
  rw [e 49 (by decide) (by decide)] at b
  exact K_qo q ⟨a, by omega⟩ (hl i a b)
theorem W_qq {nm lv jd td lw fc : Int} {ow kd mk tr hd of mu la : Int → Int} {m : cw_M} {K K' : Int → Int} (h : W_q nm lv jd td lw fc ow kd mk tr hd of mu la m K) (hK : K_r K) (q : K_q K K') : W_q nm lv jd td lw fc ow kd mk tr hd of mu la m K' := by
  have e : ∀ i, 0 ≤ i → i < 57 → K' i = K i := fun i a b => (q i a (by omega) (by omega)).symm
  have k9 := hK.2.2.2.2.2.2.2.2.2.2.2.1
  have hL := hK.2.2.2.2.2.2.2.2.2.2.2.2.2.2.2
  obtain ⟨h1, h2, h3, h4, h5, h6, h7, h8, h9, ha, hb, hc, he⟩ := h
  refine ⟨by rw [e 46 (by decide) (by decide)]; exact h1, fun i a b => by rw [e _ (by omega) (by omega)]; exact h2 i a b, fun i a b => by rw [e _ (by omega) (by omega)]; exact h3 i a b, fun i a b => by rw [e _ (by omega) (by omega)]; exact h4 i a b, ⟨h5.1, fun i a b => by rw [e _ (by omega) (by omega)]; exact h5.2 i a b⟩, ⟨by rw [e 18 (by decide) (by decide)]; exact h6.1, by rw [e 43 (by decide) (by decide)]; exact h6.2.1, by rw [e 44 (by decide) (by decide)]; exact h6.2.2.1, by rw [e 45 (by decide) (by decide)]; exact h6.2.2.2⟩, by rw [e 47 (by decide) (by decide)]; exact h7, fun i a b => by rw [e _ (by omega) (by omega)]; exact h8 i a b, by rw [e 48 (by decide) (by decide)]; exact h9, fun i a b => by rw [e _ (by omega) (by omega), e _ (by omega) (by omega)]; exact ha i a b, by rw [e 49 (by decide) (by decide)]; exact hb, by rw [e 50 (by decide) (by decide)]; exact hc, fun i a b => ?_⟩
  rw [e 49 (by decide) (by decide)] at b
  rw [← (K_qL q ⟨a, by omega⟩ (hL i a b).1.2).2.2]
  exact he i a b
theorem C_back {d : Nat} {m : cw_M} {Q : Option cw_V → cw_M → Prop} {k c : Int} (hm : la_ok m) (hr : c_fb m) (hh : (0 ≤ k ∧ k < 2) → (m x_images_ k) ≠ 0 → cf_h m x_will_ (m x_images_ k) cf_W (cf_J c) ∧ ∀ i, 0 ≤ i → i < 6 → m (cf_J c 12) i = 0 ∨ cw_tg (m (cf_J c 12) i) = 8) (h1 : ¬ (0 ≤ k ∧ k < 2) → Q (some (vi (-1))) (cr_m m (-1) 0)) (h2 : (0 ≤ k ∧ k < 2) → (m x_images_ k) = 0 → Q (some (vi (-2))) (cr_m m (-2) 1)) (hok : (0 ≤ k ∧ k < 2) → (m x_images_ k) ≠ 0 → ∀ X, cf_Z m x_will_ (m x_images_ k) cf_W (cf_J c) X → Q (some (vi 0)) (cw_put (cw_put (cw_put (cw_put (cw_put X x_log_ 0 0) x_ 18 1) x_ 19 1) x_settler_ 0 (-1)) x_ 16 0)) : cw_C (d + 2) k_C_back [vr x_, vi k] m Q := by
  refine la_go_C hm 29 [] ?_
  show cw_C _ _ [vi k, vi 2] (m) _
  refine C_isBelow (fun (a21 : 0 ≤ k) (a22 : k < 2) => ⟨hm, ?_⟩) (fun (a23 : ¬ (0 ≤ k ∧ k < 2)) => ⟨hm, ?_⟩)
  · refine br_t (show (1 : Int) ≠ 0 by decide) ?_
    refine And.intro (show 0 ≤ k ∧ k < 2 by omega) ?_
    refine And.intro (fun (c24 : m x_images_ k ≠ 0) => ?_) (fun (c24 : ¬ (m x_images_ k ≠ 0)) => ?_)
    · refine And.intro (show 0 ≤ k ∧ k < 2 by omega) ?_
      show cw_C _ _ [vr x_will_, vr (m x_images_ k)] (m) _
      refine Wi_copyFrom (hh (by omega) (by omega)).1 (hh (by omega) (by omega)).2 (fun (X : cw_M) (hZ : cf_Z m x_will_ (m x_images_ k) cf_W (cf_J c) X) => ⟨(cf_ok hm hZ (fun k hk => ⟨by have a := (cf_Wr k hk).2.1.2; split at a <;> omega, by have a := (cf_Wr k hk).1; omega⟩) (by decide) (by decide)), ?_⟩)
      have hm25 : la_ok (cw_put X x_log_ 0 0) := la_put (cf_ok hm hZ (fun k hk => ⟨by have a := (cf_Wr k hk).2.1.2; split at a <;> omega, by have a := (cf_Wr k hk).1; omega⟩) (by decide) (by decide)) (by decide) (Or.inl rfl)
      show cw_C _ _ [vr x_] (cw_put X x_log_ 0 0) _
      refine C_rewritten hm25 ⟨(la_put (la_put (la_put hm25 (by decide) (Or.inl rfl)) (by decide) (Or.inl rfl)) (by decide) (Or.inl rfl)), ?_⟩
      show cw_C _ _ [vr x_, vi 0] (cw_put (cw_put (cw_put (cw_put X x_log_ 0 0) x_ 18 1) x_ 19 1) x_settler_ 0 (-1)) _
      refine C_accept (la_put (la_put (la_put hm25 (by decide) (Or.inl rfl)) (by decide) (Or.inl rfl)) (by decide) (Or.inl rfl)) ⟨(la_put (la_put (la_put (la_put hm25 (by decide) (Or.inl rfl)) (by decide) (Or.inl rfl)) (by decide) (Or.inl rfl)) (by decide) (Or.inl rfl)), ?_⟩
      show Q (some (vi 0)) (cw_put (cw_put (cw_put (cw_put (cw_put X x_log_ 0 0) x_ 18 1) x_ 19 1) x_settler_ 0 (-1)) x_ 16 0)
      exact hok (by omega) (by omega) X hZ
    · show cw_C _ _ [vr x_, vi (-2)] (m) _
      refine C_refuse2 hm (hr 1 (by decide) (by decide)) ⟨(cr_ok hm), ?_⟩
      show Q (some (vi (-2))) (cr_m m (-2) 1)
      exact h2 (by omega) (by omega)
  · refine br_f (show ¬ ((0 : Int) ≠ 0) by decide) ?_
    show cw_C _ _ [vr x_, vi (-1)] (m) _
    refine C_refuse1 hm (hr 0 (by decide) (by decide)) ⟨(cr_ok hm), ?_⟩
    show Q (some (vi (-1))) (cr_m m (-1) 0)
    exact h1 (by omega)
