/-! What is kept, changed: the will, the caches (wip/whole/tools/m148.py). -/
/-- what trees give asks for the same -/
def K_p (K K' : Int → Int) : Prop := (∀ i, 6 ≤ i → i < 26 → K' i = K i) ∧ K' 43 = K 43 ∧ K' 44 = K 44 ∧ K' 46 = K 46 ∧ K' 50 = K 50 ∧ l_fo K' (K' 50) = l_fo K (K 50) ∧ K 49 ≤ K' 49
theorem K_pe {K K' : Int → Int} (h : K_p K K') : K_e K' K := ⟨fun j a b => h.1 _ (by omega) (by omega), fun i a b => h.1 _ (by omega) (by omega), h.2.1, h.2.2.1, h.2.2.2.1⟩
theorem K_pb {K K' : Int → Int} (h : K_p K K') (hn : 0 ≤ K 46 ∧ K 46 ≤ 7) : l_br K' (K' 50) (K' 18) = l_br K (K 50) (K 18) := by
  rw [h.1 18 (by decide) (by decide)]
  exact l_brc (by rw [h.2.2.2.1]; exact hn) (K_pe h) h.2.2.2.2.2.1
theorem K_pF {K K' : Int → Int} (h : K_p K K') (hn : 0 ≤ K 46 ∧ K 46 ≤ 7) : F_K K' = F_K K := by
  unfold F_K
  rw [K_pb h hn]
  exact l_fitc (fun p a b => h.1 _ (by omega) (by omega)) (fun _ _ _ => rfl) 6 (Nat.le_refl 6)
theorem K_pG {K K' : Int → Int} (h : K_p K K') (hn : 0 ≤ K 46 ∧ K 46 ≤ 7) {t p : Int} (ht : 0 ≤ t ∧ t < t_tm (K 46)) : G_K K' t p = G_K K t p := by
  unfold G_K
  rw [K_pF h hn, h.1 18 (by decide) (by decide)]
  exact G_tc (by rw [h.2.2.2.1]; exact hn) (K_pe h) h.2.2.2.2.2.1 (by rw [h.2.2.2.1]; exact ht)
theorem L_cK {m : cw_M} {K K' : Int → Int} (hL : L_c m K) (h : K_p K K') (hn : 0 ≤ K 46 ∧ K 46 ≤ 7) : L_c m K' := by
  obtain ⟨h1, h2, h3, h4, h5, h6⟩ := hL
  refine ⟨⟨h1.1, h1.2.imp id (fun ⟨i, a, b⟩ => ⟨i, ⟨a.1, by have := h.2.2.2.2.2.2; omega⟩, b⟩)⟩, by rw [h.2.2.2.2.2.1]; exact h2, by rw [h.1 18 (by decide) (by decide), h.2.2.1]; exact h3, by rw [K_pF h hn]; exact h4, by rw [K_pb h hn]; exact h5, fun t a b q p x y => ?_⟩
  rw [h.2.2.2.1] at b
  rw [K_pG h hn ⟨a, b⟩]
  exact h6 t a b q p x y
theorem R_KK {K K' : Int → Int} (h6 : K' 46 = K 46) (hm : ∀ i, 0 ≤ i → i < 6 → K' i = K i) (hn : 0 ≤ K 46 ∧ K 46 ≤ 7) : R_K K' = R_K K := by
  unfold R_K
  rw [h6]
  exact r_lc hn hm
theorem S_cK {m : cw_M} {K K' : Int → Int} (hS : S_c m K) (h6 : K' 46 = K 46) (hm : ∀ i, 0 ≤ i → i < 6 → K' i = K i) (hn : 0 ≤ K 46 ∧ K 46 ≤ 7) : S_c m K' := by
  unfold S_c at hS ⊢
  rw [R_KK h6 hm hn, h6]
  exact hS
theorem Z_cK {m : cw_M} {K K' : Int → Int} (hZ : Z_c m K) (h : K_p K K') (hm : ∀ i, 0 ≤ i → i < 6 → K' i = K i) (hn : 0 ≤ K 46 ∧ K 46 ≤ 7) : Z_c m K' := ⟨S_cK hZ.1 h.2.2.2.1 hm hn, hZ.2.1, hZ.2.2.1, fun q => L_cK (hZ.2.2.2 q) h hn⟩
theorem e_smK {mk K K' : Int → Int} {w : Int} (h : ∀ j, 0 ≤ j → j < w → K' j = K j) : e_sm mk K' w.toNat = e_sm mk K w.toNat := e_smk w.toNat (fun j a b => h j a (by omega))
theorem S_KK {K K' : Int → Int} (h : K_p K K') (hm : ∀ i, 0 ≤ i → i < 6 → K' i = K i) (hn : 0 ≤ K 46 ∧ K 46 ≤ 7) {t0 : Int} (ht : 0 ≤ t0 ∧ t0 < t_tm (K 46)) {mk : Int → Int} : S_K K' t0 mk ↔ S_K K t0 mk := by
  unfold S_K
  rw [h.2.2.2.1]
  constructor
  · rintro ⟨a, b⟩
    exact ⟨fun j x y => by rw [← hm j x (by omega)]; exact a j x y, fun t x y z p u v => by rw [← K_pG h hn ⟨x, y⟩, ← K_pG h hn ht]; exact b t x y z p u v⟩
  · rintro ⟨a, b⟩
    exact ⟨fun j x y => by rw [hm j x (by omega)]; exact a j x y, fun t x y z p u v => by rw [K_pG h hn ⟨x, y⟩, K_pG h hn ht]; exact b t x y z p u v⟩
theorem E_sK {m : cw_M} {K K' : Int → Int} (hE : E_s m K) (h : K_p K K') (hm : ∀ i, 0 ≤ i → i < 6 → K' i = K i) (hn : 0 ≤ K 46 ∧ K 46 ≤ 7) : E_s m K' := by
  rcases hE with hE | ⟨ht, hA⟩
  · exact Or.inl hE
  · refine Or.inr ⟨by rw [h.2.2.2.1]; exact ht, ?_⟩
    have es : ∀ mk, e_sm mk K' (K' 46 - 1).toNat = e_sm mk K (K 46 - 1).toNat := fun mk => by rw [h.2.2.2.1]; exact e_smK (fun j a b => hm j a (by omega))
    rcases hA with ⟨a, b⟩ | ⟨a, b, c⟩
    · exact Or.inl ⟨a, fun mk q => b mk ((S_KK h hm hn ht).mp q)⟩
    · refine Or.inr ⟨a, ⟨(S_KK h hm hn ht).mpr b.1, fun mk q => ?_⟩, by rw [es]; exact c⟩
      rw [es, es, h.2.2.2.1]
      exact b.2 mk ((S_KK h hm hn ht).mp q)
theorem l_ksU {K : Int → Int} {i v t : Int} (hi : i < 51) (ht : 0 ≤ t) : l_ks (cw_up K i v) t = l_ks K t := (l_ksc (K := cw_up K i v) (K' := K) (cw_up_ne (by omega)) (fun k a b => ⟨cw_up_ne (by omega), cw_up_ne (by omega)⟩)).2.2
theorem l_foU {K : Int → Int} {i v f : Int} (hi : i < 51) (hf : -1 ≤ f) : l_fo (cw_up K i v) f = l_fo K f := by
  unfold l_fo
  split
  · rfl
  · exact l_ksU hi (by omega)
/-- an entry, and what may stand there -/
def K_v (K : Int → Int) (i v : Int) : Prop := (0 ≤ i ∧ i < 6 ∧ 0 ≤ v ∧ v ≤ 3) ∨ (6 ≤ i ∧ i < 12 ∧ 0 ≤ v ∧ v ≤ 2) ∨ (12 ≤ i ∧ i < 18 ∧ (v = 0 ∨ v = 1)) ∨ (i = 18 ∧ 0 ≤ v ∧ v ≤ 999) ∨ (19 ≤ i ∧ i < 26 ∧ 0 ≤ v ∧ v < 6) ∨ (26 ≤ i ∧ i < 31 ∧ 0 ≤ v ∧ v < 132) ∨ (31 ≤ i ∧ i < 43 ∧ ((i % 2 = 1 ∧ 0 ≤ v ∧ v < 6) ∨ (i % 2 = 0 ∧ 0 ≤ v ∧ v ≤ 9999))) ∨ (i = 43 ∧ 0 ≤ v ∧ v ≤ 9999) ∨ (i = 44 ∧ 0 ≤ v ∧ v ≤ 9) ∨ (i = 45 ∧ 0 ≤ v ∧ v ≤ 10) ∨ (i = 46 ∧ 0 ≤ v ∧ v ≤ 7) ∨ (i = 47 ∧ 0 ≤ v ∧ v ≤ 5) ∨ (i = 48 ∧ 0 ≤ v ∧ v ≤ 6) ∨ (i = 50 ∧ -1 ≤ v ∧ v < K 49)
theorem K_rV {K : Int → Int} {i v : Int} (h : K_r K) (hi : K_v K i v) : K_r (cw_up K i v) := by
  obtain ⟨h1, h2, h3, h4, h5, h6, h7, h8, h9, ha, hb, hc, hd, he, hg, hl⟩ := h
  unfold K_v at hi
  have n49 : cw_up K i v 49 = K 49 := cw_up_ne (by omega)
  have n : ∀ j, 51 ≤ j → cw_up K i v j = K j := fun j q => cw_up_ne (by omega)
  have u : ∀ j, (j = i ∧ cw_up K i v j = v) ∨ (j ≠ i ∧ cw_up K i v j = K j) := fun j => by
    by_cases e : j = i
    · exact Or.inl ⟨e, by rw [e, cw_up_eq]⟩
    · exact Or.inr ⟨e, cw_up_ne e⟩
  refine ⟨?_, fun j a b => ?_, fun j a b => ?_, fun j a b => ?_, ?_, fun j a b => ?_, ?_, ?_, ?_, ?_, ?_, by rw [n49]; exact hc, ?_, fun j a b => ?_, fun j a b => ?_, fun j a b => ?_⟩
  · rcases u 46 with ⟨x, y⟩ | ⟨x, y⟩ <;> rw [y] <;> omega
  · have := h2 j a b
    rcases u j with ⟨x, y⟩ | ⟨x, y⟩ <;> rw [y] <;> omega
  · have := h3 j a b
    rcases u (6 + j) with ⟨x, y⟩ | ⟨x, y⟩ <;> rw [y] <;> omega
  · have := h4 j a b
    rcases u (12 + j) with ⟨x, y⟩ | ⟨x, y⟩ <;> rw [y] <;> omega
  · rcases u 18 with ⟨x, y⟩ | ⟨x, y⟩ <;> rw [y] <;> omega
  · have := h6 j a b
    rcases u (19 + j) with ⟨x, y⟩ | ⟨x, y⟩ <;> rw [y] <;> omega
  · rcases u 43 with ⟨x, y⟩ | ⟨x, y⟩ <;> rw [y] <;> omega
  · rcases u 44 with ⟨x, y⟩ | ⟨x, y⟩ <;> rw [y] <;> omega
  · rcases u 45 with ⟨x, y⟩ | ⟨x, y⟩ <;> rw [y] <;> omega
  · rcases u 47 with ⟨x, y⟩ | ⟨x, y⟩ <;> rw [y] <;> omega
  · rcases u 48 with ⟨x, y⟩ | ⟨x, y⟩ <;> rw [y] <;> omega
  · rw [n49]
    rcases u 50 with ⟨x, y⟩ | ⟨x, y⟩ <;> rw [y] <;> omega
  · have := he j a b
    rcases u (26 + j) with ⟨x, y⟩ | ⟨x, y⟩ <;> rw [y] <;> omega
  · have := hg j a b
    rcases u (31 + 2 * j) with ⟨x, y⟩ | ⟨x, y⟩ <;> rcases u (32 + 2 * j) with ⟨x', y'⟩ | ⟨x', y'⟩ <;> rw [y, y'] <;> omega
  · rw [n49] at b
    exact L_okc (n _ (by omega)).symm (fun k c d => ⟨(n _ (by omega)).symm, (n _ (by omega)).symm⟩) (hl j a b)
theorem q_mk {nm lv jd td lw fc : Int} {ow kd mk tr hd of mu la : Int → Int} {m : cw_M} {K : Int → Int} {j x : Int} (hj : 0 ≤ j ∧ j < 6) (h : W_q nm lv jd td lw fc ow kd mk tr hd of mu la m K) : W_q nm lv jd td lw fc ow kd (cw_up mk j x) tr hd of mu la m (cw_up K j x) := by
  obtain ⟨h1, h2, h3, h4, h5, h6, h7, h8, h9, ha, hb, hc, he⟩ := h
  exact ⟨by rw [cw_up_ne (by omega)]; exact h1, fun i a b => by rw [cw_up_ne (by omega)]; exact h2 i a b, fun i a b => by rw [cw_up_ne (by omega)]; exact h3 i a b, fun i a b => by
    by_cases e : i = j
    · rw [e, cw_up_eq, cw_up_eq]
    · rw [cw_up_ne e, cw_up_ne (by omega)]; exact h4 i a b, ⟨h5.1, fun i a b => by rw [cw_up_ne (by omega)]; exact h5.2 i a b⟩, ⟨by rw [cw_up_ne (by omega)]; exact h6.1, by rw [cw_up_ne (by omega)]; exact h6.2.1, by rw [cw_up_ne (by omega)]; exact h6.2.2.1, by rw [cw_up_ne (by omega)]; exact h6.2.2.2⟩, by rw [cw_up_ne (by omega)]; exact h7, fun i a b => by rw [cw_up_ne (by omega)]; exact h8 i a b, by rw [cw_up_ne (by omega)]; exact h9, fun i a b => by rw [cw_up_ne (by omega), cw_up_ne (by omega)]; exact ha i a b, by rw [cw_up_ne (by omega)]; exact hb, by rw [cw_up_ne (by omega)]; exact hc, fun i a b => by rw [l_ksU (by omega) a]; exact he i a (by rw [cw_up_ne (by omega)] at b; exact b)⟩
theorem q_kd {nm lv jd td lw fc : Int} {ow kd mk tr hd of mu la : Int → Int} {m : cw_M} {K : Int → Int} {j x : Int} (hj : 0 ≤ j ∧ j < 6) (h : W_q nm lv jd td lw fc ow kd mk tr hd of mu la m K) : W_q nm lv jd td lw fc ow (cw_up kd j x) mk tr hd of mu la m (cw_up K (6 + j) x) := by
  obtain ⟨h1, h2, h3, h4, h5, h6, h7, h8, h9, ha, hb, hc, he⟩ := h
  exact ⟨by rw [cw_up_ne (by omega)]; exact h1, fun i a b => by rw [cw_up_ne (by omega)]; exact h2 i a b, fun i a b => by
    by_cases e : i = j
    · rw [e, cw_up_eq, cw_up_eq]
    · rw [cw_up_ne e, cw_up_ne (by omega)]; exact h3 i a b, fun i a b => by rw [cw_up_ne (by omega)]; exact h4 i a b, ⟨h5.1, fun i a b => by rw [cw_up_ne (by omega)]; exact h5.2 i a b⟩, ⟨by rw [cw_up_ne (by omega)]; exact h6.1, by rw [cw_up_ne (by omega)]; exact h6.2.1, by rw [cw_up_ne (by omega)]; exact h6.2.2.1, by rw [cw_up_ne (by omega)]; exact h6.2.2.2⟩, by rw [cw_up_ne (by omega)]; exact h7, fun i a b => by rw [cw_up_ne (by omega)]; exact h8 i a b, by rw [cw_up_ne (by omega)]; exact h9, fun i a b => by rw [cw_up_ne (by omega), cw_up_ne (by omega)]; exact ha i a b, by rw [cw_up_ne (by omega)]; exact hb, by rw [cw_up_ne (by omega)]; exact hc, fun i a b => by rw [l_ksU (by omega) a]; exact he i a (by rw [cw_up_ne (by omega)] at b; exact b)⟩
theorem q_ow {nm lv jd td lw fc : Int} {ow kd mk tr hd of mu la : Int → Int} {m : cw_M} {K : Int → Int} {j x : Int} (hj : 0 ≤ j ∧ j < 7) (h : W_q nm lv jd td lw fc ow kd mk tr hd of mu la m K) : W_q nm lv jd td lw fc (cw_up ow j x) kd mk tr hd of mu la m (cw_up K (19 + j) x) := by
  obtain ⟨h1, h2, h3, h4, h5, h6, h7, h8, h9, ha, hb, hc, he⟩ := h
  exact ⟨by rw [cw_up_ne (by omega)]; exact h1, fun i a b => by
    by_cases e : i = j
    · rw [e, cw_up_eq, cw_up_eq]
    · rw [cw_up_ne e, cw_up_ne (by omega)]; exact h2 i a b, fun i a b => by rw [cw_up_ne (by omega)]; exact h3 i a b, fun i a b => by rw [cw_up_ne (by omega)]; exact h4 i a b, ⟨h5.1, fun i a b => by rw [cw_up_ne (by omega)]; exact h5.2 i a b⟩, ⟨by rw [cw_up_ne (by omega)]; exact h6.1, by rw [cw_up_ne (by omega)]; exact h6.2.1, by rw [cw_up_ne (by omega)]; exact h6.2.2.1, by rw [cw_up_ne (by omega)]; exact h6.2.2.2⟩, by rw [cw_up_ne (by omega)]; exact h7, fun i a b => by rw [cw_up_ne (by omega)]; exact h8 i a b, by rw [cw_up_ne (by omega)]; exact h9, fun i a b => by rw [cw_up_ne (by omega), cw_up_ne (by omega)]; exact ha i a b, by rw [cw_up_ne (by omega)]; exact hb, by rw [cw_up_ne (by omega)]; exact hc, fun i a b => by rw [l_ksU (by omega) a]; exact he i a (by rw [cw_up_ne (by omega)] at b; exact b)⟩
theorem q_hd {nm lv jd td lw fc : Int} {ow kd mk tr hd of mu la : Int → Int} {m : cw_M} {K : Int → Int} {j x : Int} (hj : 0 ≤ j ∧ j < 5) (h : W_q nm lv jd td lw fc ow kd mk tr hd of mu la m K) : W_q nm lv jd td lw fc ow kd mk tr (cw_up hd j x) of mu la m (cw_up K (26 + j) x) := by
  obtain ⟨h1, h2, h3, h4, h5, h6, h7, h8, h9, ha, hb, hc, he⟩ := h
  exact ⟨by rw [cw_up_ne (by omega)]; exact h1, fun i a b => by rw [cw_up_ne (by omega)]; exact h2 i a b, fun i a b => by rw [cw_up_ne (by omega)]; exact h3 i a b, fun i a b => by rw [cw_up_ne (by omega)]; exact h4 i a b, ⟨h5.1, fun i a b => by rw [cw_up_ne (by omega)]; exact h5.2 i a b⟩, ⟨by rw [cw_up_ne (by omega)]; exact h6.1, by rw [cw_up_ne (by omega)]; exact h6.2.1, by rw [cw_up_ne (by omega)]; exact h6.2.2.1, by rw [cw_up_ne (by omega)]; exact h6.2.2.2⟩, by rw [cw_up_ne (by omega)]; exact h7, fun i a b => by
    by_cases e : i = j
    · rw [e, cw_up_eq, cw_up_eq]
    · rw [cw_up_ne e, cw_up_ne (by omega)]; exact h8 i a b, by rw [cw_up_ne (by omega)]; exact h9, fun i a b => by rw [cw_up_ne (by omega), cw_up_ne (by omega)]; exact ha i a b, by rw [cw_up_ne (by omega)]; exact hb, by rw [cw_up_ne (by omega)]; exact hc, fun i a b => by rw [l_ksU (by omega) a]; exact he i a (by rw [cw_up_ne (by omega)] at b; exact b)⟩
theorem q_nm {nm lv jd td lw fc : Int} {ow kd mk tr hd of mu la : Int → Int} {m : cw_M} {K : Int → Int} {x : Int} (h : W_q nm lv jd td lw fc ow kd mk tr hd of mu la m K) : W_q x lv jd td lw fc ow kd mk tr hd of mu la m (cw_up K 46 x) := by
  obtain ⟨h1, h2, h3, h4, h5, h6, h7, h8, h9, ha, hb, hc, he⟩ := h
  exact ⟨by rw [cw_up_eq], fun i a b => by rw [cw_up_ne (by omega)]; exact h2 i a b, fun i a b => by rw [cw_up_ne (by omega)]; exact h3 i a b, fun i a b => by rw [cw_up_ne (by omega)]; exact h4 i a b, ⟨h5.1, fun i a b => by rw [cw_up_ne (by omega)]; exact h5.2 i a b⟩, ⟨by rw [cw_up_ne (by omega)]; exact h6.1, by rw [cw_up_ne (by omega)]; exact h6.2.1, by rw [cw_up_ne (by omega)]; exact h6.2.2.1, by rw [cw_up_ne (by omega)]; exact h6.2.2.2⟩, by rw [cw_up_ne (by omega)]; exact h7, fun i a b => by rw [cw_up_ne (by omega)]; exact h8 i a b, by rw [cw_up_ne (by omega)]; exact h9, fun i a b => by rw [cw_up_ne (by omega), cw_up_ne (by omega)]; exact ha i a b, by rw [cw_up_ne (by omega)]; exact hb, by rw [cw_up_ne (by omega)]; exact hc, fun i a b => by rw [l_ksU (by omega) a]; exact he i a (by rw [cw_up_ne (by omega)] at b; exact b)⟩
theorem q_jd {nm lv jd td lw fc : Int} {ow kd mk tr hd of mu la : Int → Int} {m : cw_M} {K : Int → Int} {x : Int} (h : W_q nm lv jd td lw fc ow kd mk tr hd of mu la m K) : W_q nm lv x td lw fc ow kd mk tr hd of mu la m (cw_up K 47 x) := by
  obtain ⟨h1, h2, h3, h4, h5, h6, h7, h8, h9, ha, hb, hc, he⟩ := h
  exact ⟨by rw [cw_up_ne (by omega)]; exact h1, fun i a b => by rw [cw_up_ne (by omega)]; exact h2 i a b, fun i a b => by rw [cw_up_ne (by omega)]; exact h3 i a b, fun i a b => by rw [cw_up_ne (by omega)]; exact h4 i a b, ⟨h5.1, fun i a b => by rw [cw_up_ne (by omega)]; exact h5.2 i a b⟩, ⟨by rw [cw_up_ne (by omega)]; exact h6.1, by rw [cw_up_ne (by omega)]; exact h6.2.1, by rw [cw_up_ne (by omega)]; exact h6.2.2.1, by rw [cw_up_ne (by omega)]; exact h6.2.2.2⟩, by rw [cw_up_eq], fun i a b => by rw [cw_up_ne (by omega)]; exact h8 i a b, by rw [cw_up_ne (by omega)]; exact h9, fun i a b => by rw [cw_up_ne (by omega), cw_up_ne (by omega)]; exact ha i a b, by rw [cw_up_ne (by omega)]; exact hb, by rw [cw_up_ne (by omega)]; exact hc, fun i a b => by rw [l_ksU (by omega) a]; exact he i a (by rw [cw_up_ne (by omega)] at b; exact b)⟩
theorem q_td {nm lv jd td lw fc : Int} {ow kd mk tr hd of mu la : Int → Int} {m : cw_M} {K : Int → Int} {x : Int} (h : W_q nm lv jd td lw fc ow kd mk tr hd of mu la m K) : W_q nm lv jd x lw fc ow kd mk tr hd of mu la m (cw_up K 48 x) := by
  obtain ⟨h1, h2, h3, h4, h5, h6, h7, h8, h9, ha, hb, hc, he⟩ := h
  exact ⟨by rw [cw_up_ne (by omega)]; exact h1, fun i a b => by rw [cw_up_ne (by omega)]; exact h2 i a b, fun i a b => by rw [cw_up_ne (by omega)]; exact h3 i a b, fun i a b => by rw [cw_up_ne (by omega)]; exact h4 i a b, ⟨h5.1, fun i a b => by rw [cw_up_ne (by omega)]; exact h5.2 i a b⟩, ⟨by rw [cw_up_ne (by omega)]; exact h6.1, by rw [cw_up_ne (by omega)]; exact h6.2.1, by rw [cw_up_ne (by omega)]; exact h6.2.2.1, by rw [cw_up_ne (by omega)]; exact h6.2.2.2⟩, by rw [cw_up_ne (by omega)]; exact h7, fun i a b => by rw [cw_up_ne (by omega)]; exact h8 i a b, by rw [cw_up_eq], fun i a b => by rw [cw_up_ne (by omega), cw_up_ne (by omega)]; exact ha i a b, by rw [cw_up_ne (by omega)]; exact hb, by rw [cw_up_ne (by omega)]; exact hc, fun i a b => by rw [l_ksU (by omega) a]; exact he i a (by rw [cw_up_ne (by omega)] at b; exact b)⟩
theorem q_fc {nm lv jd td lw fc : Int} {ow kd mk tr hd of mu la : Int → Int} {m : cw_M} {K : Int → Int} {x : Int} (h : W_q nm lv jd td lw fc ow kd mk tr hd of mu la m K) : W_q nm lv jd td lw x ow kd mk tr hd of mu la m (cw_up K 50 x) := by
  obtain ⟨h1, h2, h3, h4, h5, h6, h7, h8, h9, ha, hb, hc, he⟩ := h
  exact ⟨by rw [cw_up_ne (by omega)]; exact h1, fun i a b => by rw [cw_up_ne (by omega)]; exact h2 i a b, fun i a b => by rw [cw_up_ne (by omega)]; exact h3 i a b, fun i a b => by rw [cw_up_ne (by omega)]; exact h4 i a b, ⟨h5.1, fun i a b => by rw [cw_up_ne (by omega)]; exact h5.2 i a b⟩, ⟨by rw [cw_up_ne (by omega)]; exact h6.1, by rw [cw_up_ne (by omega)]; exact h6.2.1, by rw [cw_up_ne (by omega)]; exact h6.2.2.1, by rw [cw_up_ne (by omega)]; exact h6.2.2.2⟩, by rw [cw_up_ne (by omega)]; exact h7, fun i a b => by rw [cw_up_ne (by omega)]; exact h8 i a b, by rw [cw_up_ne (by omega)]; exact h9, fun i a b => by rw [cw_up_ne (by omega), cw_up_ne (by omega)]; exact ha i a b, by rw [cw_up_ne (by omega)]; exact hb, by rw [cw_up_eq], fun i a b => by rw [l_ksU (by omega) a]; exact he i a (by rw [cw_up_ne (by omega)] at b; exact b)⟩
theorem q_lv {nm lv jd td lw fc : Int} {ow kd mk tr hd of mu la : Int → Int} {m : cw_M} {K : Int → Int} {p x v : Int} (hp : 0 ≤ p ∧ p < 6) (hx : (0 ≤ x ∧ x < 64) ∧ ∀ i, 0 ≤ i → i < 6 → cw_iand (cw_ishr x i) 1 = if i = p then v else cw_iand (cw_ishr lv i) 1) (h : W_q nm lv jd td lw fc ow kd mk tr hd of mu la m K) : W_q nm x jd td lw fc ow kd mk tr hd of mu la m (cw_up K (12 + p) v) := by
  obtain ⟨h1, h2, h3, h4, h5, h6, h7, h8, h9, ha, hb, hc, he⟩ := h
  exact ⟨by rw [cw_up_ne (by omega)]; exact h1, fun i a b => by rw [cw_up_ne (by omega)]; exact h2 i a b, fun i a b => by rw [cw_up_ne (by omega)]; exact h3 i a b, fun i a b => by rw [cw_up_ne (by omega)]; exact h4 i a b, ⟨hx.1, fun i a b => by
    rw [hx.2 i a b]
    by_cases e : i = p
    · rw [if_pos e, e, cw_up_eq]
    · rw [if_neg e, cw_up_ne (by omega)]; exact h5.2 i a b⟩, ⟨by rw [cw_up_ne (by omega)]; exact h6.1, by rw [cw_up_ne (by omega)]; exact h6.2.1, by rw [cw_up_ne (by omega)]; exact h6.2.2.1, by rw [cw_up_ne (by omega)]; exact h6.2.2.2⟩, by rw [cw_up_ne (by omega)]; exact h7, fun i a b => by rw [cw_up_ne (by omega)]; exact h8 i a b, by rw [cw_up_ne (by omega)]; exact h9, fun i a b => by rw [cw_up_ne (by omega), cw_up_ne (by omega)]; exact ha i a b, by rw [cw_up_ne (by omega)]; exact hb, by rw [cw_up_ne (by omega)]; exact hc, fun i a b => by rw [l_ksU (by omega) a]; exact he i a (by rw [cw_up_ne (by omega)] at b; exact b)⟩
theorem q_tr0 {nm lv jd td lw fc : Int} {ow kd mk tr hd of mu la : Int → Int} {m : cw_M} {K : Int → Int} {x : Int} (h : W_q nm lv jd td lw fc ow kd mk tr hd of mu la m K) : W_q nm lv jd td lw fc ow kd mk (cw_up tr 0 x) hd of mu la m (cw_up K 18 x) := by
  obtain ⟨h1, h2, h3, h4, h5, h6, h7, h8, h9, ha, hb, hc, he⟩ := h
  exact ⟨by rw [cw_up_ne (by omega)]; exact h1, fun i a b => by rw [cw_up_ne (by omega)]; exact h2 i a b, fun i a b => by rw [cw_up_ne (by omega)]; exact h3 i a b, fun i a b => by rw [cw_up_ne (by omega)]; exact h4 i a b, ⟨h5.1, fun i a b => by rw [cw_up_ne (by omega)]; exact h5.2 i a b⟩, ⟨by rw [cw_up_eq, cw_up_eq], by rw [cw_up_ne (by decide), cw_up_ne (by decide)]; exact h6.2.1, by rw [cw_up_ne (by decide), cw_up_ne (by decide)]; exact h6.2.2.1, by rw [cw_up_ne (by decide), cw_up_ne (by decide)]; exact h6.2.2.2⟩, by rw [cw_up_ne (by omega)]; exact h7, fun i a b => by rw [cw_up_ne (by omega)]; exact h8 i a b, by rw [cw_up_ne (by omega)]; exact h9, fun i a b => by rw [cw_up_ne (by omega), cw_up_ne (by omega)]; exact ha i a b, by rw [cw_up_ne (by omega)]; exact hb, by rw [cw_up_ne (by omega)]; exact hc, fun i a b => by rw [l_ksU (by omega) a]; exact he i a (by rw [cw_up_ne (by omega)] at b; exact b)⟩
theorem q_tr1 {nm lv jd td lw fc : Int} {ow kd mk tr hd of mu la : Int → Int} {m : cw_M} {K : Int → Int} {x : Int} (h : W_q nm lv jd td lw fc ow kd mk tr hd of mu la m K) : W_q nm lv jd td lw fc ow kd mk (cw_up tr 1 x) hd of mu la m (cw_up K 43 x) := by
  obtain ⟨h1, h2, h3, h4, h5, h6, h7, h8, h9, ha, hb, hc, he⟩ := h
  exact ⟨by rw [cw_up_ne (by omega)]; exact h1, fun i a b => by rw [cw_up_ne (by omega)]; exact h2 i a b, fun i a b => by rw [cw_up_ne (by omega)]; exact h3 i a b, fun i a b => by rw [cw_up_ne (by omega)]; exact h4 i a b, ⟨h5.1, fun i a b => by rw [cw_up_ne (by omega)]; exact h5.2 i a b⟩, ⟨by rw [cw_up_ne (by decide), cw_up_ne (by decide)]; exact h6.1, by rw [cw_up_eq, cw_up_eq], by rw [cw_up_ne (by decide), cw_up_ne (by decide)]; exact h6.2.2.1, by rw [cw_up_ne (by decide), cw_up_ne (by decide)]; exact h6.2.2.2⟩, by rw [cw_up_ne (by omega)]; exact h7, fun i a b => by rw [cw_up_ne (by omega)]; exact h8 i a b, by rw [cw_up_ne (by omega)]; exact h9, fun i a b => by rw [cw_up_ne (by omega), cw_up_ne (by omega)]; exact ha i a b, by rw [cw_up_ne (by omega)]; exact hb, by rw [cw_up_ne (by omega)]; exact hc, fun i a b => by rw [l_ksU (by omega) a]; exact he i a (by rw [cw_up_ne (by omega)] at b; exact b)⟩
theorem q_tr2 {nm lv jd td lw fc : Int} {ow kd mk tr hd of mu la : Int → Int} {m : cw_M} {K : Int → Int} {x : Int} (h : W_q nm lv jd td lw fc ow kd mk tr hd of mu la m K) : W_q nm lv jd td lw fc ow kd mk (cw_up tr 2 x) hd of mu la m (cw_up K 44 x) := by
  obtain ⟨h1, h2, h3, h4, h5, h6, h7, h8, h9, ha, hb, hc, he⟩ := h
  exact ⟨by rw [cw_up_ne (by omega)]; exact h1, fun i a b => by rw [cw_up_ne (by omega)]; exact h2 i a b, fun i a b => by rw [cw_up_ne (by omega)]; exact h3 i a b, fun i a b => by rw [cw_up_ne (by omega)]; exact h4 i a b, ⟨h5.1, fun i a b => by rw [cw_up_ne (by omega)]; exact h5.2 i a b⟩, ⟨by rw [cw_up_ne (by decide), cw_up_ne (by decide)]; exact h6.1, by rw [cw_up_ne (by decide), cw_up_ne (by decide)]; exact h6.2.1, by rw [cw_up_eq, cw_up_eq], by rw [cw_up_ne (by decide), cw_up_ne (by decide)]; exact h6.2.2.2⟩, by rw [cw_up_ne (by omega)]; exact h7, fun i a b => by rw [cw_up_ne (by omega)]; exact h8 i a b, by rw [cw_up_ne (by omega)]; exact h9, fun i a b => by rw [cw_up_ne (by omega), cw_up_ne (by omega)]; exact ha i a b, by rw [cw_up_ne (by omega)]; exact hb, by rw [cw_up_ne (by omega)]; exact hc, fun i a b => by rw [l_ksU (by omega) a]; exact he i a (by rw [cw_up_ne (by omega)] at b; exact b)⟩
theorem q_tr3 {nm lv jd td lw fc : Int} {ow kd mk tr hd of mu la : Int → Int} {m : cw_M} {K : Int → Int} {x : Int} (h : W_q nm lv jd td lw fc ow kd mk tr hd of mu la m K) : W_q nm lv jd td lw fc ow kd mk (cw_up tr 3 x) hd of mu la m (cw_up K 45 x) := by
  obtain ⟨h1, h2, h3, h4, h5, h6, h7, h8, h9, ha, hb, hc, he⟩ := h
  exact ⟨by rw [cw_up_ne (by omega)]; exact h1, fun i a b => by rw [cw_up_ne (by omega)]; exact h2 i a b, fun i a b => by rw [cw_up_ne (by omega)]; exact h3 i a b, fun i a b => by rw [cw_up_ne (by omega)]; exact h4 i a b, ⟨h5.1, fun i a b => by rw [cw_up_ne (by omega)]; exact h5.2 i a b⟩, ⟨by rw [cw_up_ne (by decide), cw_up_ne (by decide)]; exact h6.1, by rw [cw_up_ne (by decide), cw_up_ne (by decide)]; exact h6.2.1, by rw [cw_up_ne (by decide), cw_up_ne (by decide)]; exact h6.2.2.1, by rw [cw_up_eq, cw_up_eq]⟩, by rw [cw_up_ne (by omega)]; exact h7, fun i a b => by rw [cw_up_ne (by omega)]; exact h8 i a b, by rw [cw_up_ne (by omega)]; exact h9, fun i a b => by rw [cw_up_ne (by omega), cw_up_ne (by omega)]; exact ha i a b, by rw [cw_up_ne (by omega)]; exact hb, by rw [cw_up_ne (by omega)]; exact hc, fun i a b => by rw [l_ksU (by omega) a]; exact he i a (by rw [cw_up_ne (by omega)] at b; exact b)⟩
theorem q_tl {nm lv jd td lw fc : Int} {ow kd mk tr hd of mu la : Int → Int} {m : cw_M} {K : Int → Int} {j x y : Int} (hj : 0 ≤ j ∧ j < 6) (h : W_q nm lv jd td lw fc ow kd mk tr hd of mu la m K) : W_q nm lv jd td lw fc ow kd mk tr hd (cw_up of j x) (cw_up mu j y) la m (cw_up (cw_up K (31 + 2 * j) x) (31 + 2 * j + 1) y) := by
  obtain ⟨h1, h2, h3, h4, h5, h6, h7, h8, h9, ha, hb, hc, he⟩ := h
  exact ⟨by rw [cw_up_ne (by omega), cw_up_ne (by omega)]; exact h1, fun i a b => by rw [cw_up_ne (by omega), cw_up_ne (by omega)]; exact h2 i a b, fun i a b => by rw [cw_up_ne (by omega), cw_up_ne (by omega)]; exact h3 i a b, fun i a b => by rw [cw_up_ne (by omega), cw_up_ne (by omega)]; exact h4 i a b, ⟨h5.1, fun i a b => by rw [cw_up_ne (by omega), cw_up_ne (by omega)]; exact h5.2 i a b⟩, ⟨by rw [cw_up_ne (by omega), cw_up_ne (by omega)]; exact h6.1, by rw [cw_up_ne (by omega), cw_up_ne (by omega)]; exact h6.2.1, by rw [cw_up_ne (by omega), cw_up_ne (by omega)]; exact h6.2.2.1, by rw [cw_up_ne (by omega), cw_up_ne (by omega)]; exact h6.2.2.2⟩, by rw [cw_up_ne (by omega), cw_up_ne (by omega)]; exact h7, fun i a b => by rw [cw_up_ne (by omega), cw_up_ne (by omega)]; exact h8 i a b, by rw [cw_up_ne (by omega), cw_up_ne (by omega)]; exact h9, fun i a b => by
    by_cases e : i = j
    · rw [e, cw_up_eq, cw_up_eq, cw_up_ne (by omega), cw_up_eq, show 32 + 2 * j = 31 + 2 * j + 1 by omega, cw_up_eq]
      exact ⟨rfl, rfl⟩
    · rw [cw_up_ne e, cw_up_ne e, cw_up_ne (by omega), cw_up_ne (by omega), cw_up_ne (by omega), cw_up_ne (by omega)]; exact ha i a b, by rw [cw_up_ne (by omega), cw_up_ne (by omega)]; exact hb, by rw [cw_up_ne (by omega), cw_up_ne (by omega)]; exact hc, fun i a b => by rw [l_ksU (by omega) a, l_ksU (by omega) a]; exact he i a (by rw [cw_up_ne (by omega), cw_up_ne (by omega)] at b; exact b)⟩
