/-! What the class's paper says is what is kept says: pure. -/
theorem l_tl2 {E : Int → Int} : ∀ (Ks : List p_K) {a : Int}, (a = 0 ∨ a = 1) → l_tl Ks 2 a E = 0 ∨ l_tl Ks 2 a E = 1
  | [], a, h => h
  | K :: t, a, h => by
    show l_tl t 2 (l_st 2 E a K) E = 0 ∨ l_tl t 2 (l_st 2 E a K) E = 1
    refine l_tl2 t ?_
    by_cases q : K.1 = 2 ∧ k_hd K.2.2.2.2 E
    · have v : k_vl2 K E = some 1 := by unfold k_vl2; rw [if_pos q.1]
      rw [l_st1 q.1 q.2 v]
      exact Or.inr (by decide)
    · rw [l_st0 (fun z => q ⟨z.1, z.2.1⟩)]; exact h
/-- a set from its bits -/
noncomputable def m_B (b : Int → Int) : Nat → Int
  | 0 => 0
  | k + 1 => cw_ior (m_B b k) (cw_ishl (b k) k)
theorem c_Bm {Ks : List p_K} {w0 nm : Int → Int} {n wt : Int} : ∀ k : Nat, c_B Ks w0 nm n wt k = m_B (fun p => l_tl Ks 2 0 (c_P w0 p wt (f_cnt nm p n.toNat))) k
  | 0 => rfl
  | k + 1 => by
    show cw_ior (c_B Ks w0 nm n wt k) _ = cw_ior (m_B _ k) _
    rw [c_Bm k]
theorem m_fit0 : ∀ (x : Fin 64) (a0 a1 a2 a3 a4 a5 : Fin 2), cw_iand (x.val : Int) (cw_ixor (cw_ior (cw_ior (cw_ior (cw_ior (cw_ior (cw_ior 0 (cw_ishl (a0.val : Int) 0)) (cw_ishl (a1.val : Int) 1)) (cw_ishl (a2.val : Int) 2)) (cw_ishl (a3.val : Int) 3)) (cw_ishl (a4.val : Int) 4)) (cw_ishl (a5.val : Int) 5)) (-1)) = cw_ior (cw_ior (cw_ior (cw_ior (cw_ior (cw_ior 0 (if cw_iand (cw_ishr (x.val : Int) 0) 1 = 1 ∧ ¬ 0 < (a0.val : Int) then cw_ishl 1 0 else 0)) (if cw_iand (cw_ishr (x.val : Int) 1) 1 = 1 ∧ ¬ 0 < (a1.val : Int) then cw_ishl 1 1 else 0)) (if cw_iand (cw_ishr (x.val : Int) 2) 1 = 1 ∧ ¬ 0 < (a2.val : Int) then cw_ishl 1 2 else 0)) (if cw_iand (cw_ishr (x.val : Int) 3) 1 = 1 ∧ ¬ 0 < (a3.val : Int) then cw_ishl 1 3 else 0)) (if cw_iand (cw_ishr (x.val : Int) 4) 1 = 1 ∧ ¬ 0 < (a4.val : Int) then cw_ishl 1 4 else 0)) (if cw_iand (cw_ishr (x.val : Int) 5) 1 = 1 ∧ ¬ 0 < (a5.val : Int) then cw_ishl 1 5 else 0) := by decide +kernel
theorem m_bit {v : Int} (h : v = 0 ∨ v = 1) : ∃ a : Fin 2, v = (a.val : Int) := by
  rcases h with h | h
  · exact ⟨0, h⟩
  · exact ⟨1, h⟩
theorem m_fit {lv : Int} {l b : Int → Int} (hlv : 0 ≤ lv ∧ lv < 64) (hl : ∀ p, 0 ≤ p → p < 6 → cw_iand (cw_ishr lv p) 1 = l p) (hb : ∀ p, 0 ≤ p → p < 6 → b p = 0 ∨ b p = 1) : cw_iand lv (cw_ixor (m_B b 6) (-1)) = l_fit l b 6 := by
  obtain ⟨a0, e0⟩ := m_bit (hb 0 (by decide) (by decide))
  obtain ⟨a1, e1⟩ := m_bit (hb 1 (by decide) (by decide))
  obtain ⟨a2, e2⟩ := m_bit (hb 2 (by decide) (by decide))
  obtain ⟨a3, e3⟩ := m_bit (hb 3 (by decide) (by decide))
  obtain ⟨a4, e4⟩ := m_bit (hb 4 (by decide) (by decide))
  obtain ⟨a5, e5⟩ := m_bit (hb 5 (by decide) (by decide))
  have ex : lv = ((⟨lv.toNat, by omega⟩ : Fin 64).val : Int) := by show lv = (lv.toNat : Int); omega
  have key := m_fit0 ⟨lv.toNat, by omega⟩ a0 a1 a2 a3 a4 a5
  rw [← ex, ← e0, ← e1, ← e2, ← e3, ← e4, ← e5, hl 0 (by decide) (by decide), hl 1 (by decide) (by decide), hl 2 (by decide) (by decide), hl 3 (by decide) (by decide), hl 4 (by decide) (by decide), hl 5 (by decide) (by decide)] at key
  exact key
/-- what paper needs of the class's will -/
def W_g (m : cw_M) (K : Int → Int) : Prop := m x_will_ 0 = K 46 ∧ (∀ i, 0 ≤ i → i < 7 → m x_will_owner_ i = K (19 + i)) ∧ (∀ j, 0 ≤ j → j < 6 → m x_will_kinds_ j = K (6 + j)) ∧ m x_will_terms_ 1 = K 43 ∧ m x_will_terms_ 2 = K 44
/-- words behind what is asked -/
def c_0 (yr md : Int) : Int → Int := fun i => if i = 6 then yr else if i = 7 then md else 0
theorem c_JE {w0 K : Int → Int} {yr j l r wt : Int} (h : c_w w0 (c_0 yr (K 44))) : c_J w0 j l r wt = l_E K yr j l r wt (-1) := by
  rw [c_Jw h]
  funext i
  unfold c_J l_E c_0
  (repeat' split) <;> first | rfl | omega
theorem c_PE {w0 K nm : Int → Int} {yr p wt : Int} (h : c_w w0 (c_0 yr (K 44))) (hp : 0 ≤ p) (hK : 0 ≤ K 46 ∧ K 46 ≤ 7) (hn : ∀ i, 0 ≤ i → i < 7 → nm i = K (19 + i)) : c_P w0 p wt (f_cnt nm p (K 46).toNat) = l_E K yr (-1) (-1) (-1) wt p := by
  rw [c_Pw h, f_cntc (f := nm) (g := fun i => K (19 + i)) (K 46).toNat (fun i a b => hn i a (by omega))]
  funext i
  unfold c_P l_E c_0
  (repeat' split) <;> first | rfl | omega
theorem c_SE {w0 K : Int → Int} {yr fc : Int} (h : c_w w0 (c_0 yr (K 44))) : c_S (l_fo K fc) w0 = l_Sh K fc yr := by
  funext j l r wt
  unfold c_S l_Sh
  rw [c_JE h]
theorem c_TE {w0 K nm : Int → Int} {yr fc p wt : Int} (h : c_w w0 (c_0 yr (K 44))) (hp : 0 ≤ p) (hK : 0 ≤ K 46 ∧ K 46 ≤ 7) (hn : ∀ i, 0 ≤ i → i < 7 → nm i = K (19 + i)) : c_T (l_fo K fc) w0 nm (K 46) p wt = l_tx K fc yr p wt := by
  unfold c_T l_tx
  rw [c_PE h hp hK hn]
theorem m_Bc {b b' : Int → Int} : ∀ n : Nat, (∀ p : Int, 0 ≤ p → p < n → b p = b' p) → m_B b n = m_B b' n
  | 0, _ => rfl
  | n + 1, h => by
    show cw_ior (m_B b n) _ = cw_ior (m_B b' n) _
    rw [m_Bc n (fun p a c => h p a (by omega)), h n (by omega) (by omega)]
theorem c_BE {w0 K nm : Int → Int} {yr fc : Int} (h : c_w w0 (c_0 yr (K 44))) (hK : 0 ≤ K 46 ∧ K 46 ≤ 7) (hn : ∀ i, 0 ≤ i → i < 7 → nm i = K (19 + i)) : c_B (l_fo K fc) w0 nm (K 46) (K 43) 6 = m_B (l_br K fc yr) 6 := by
  rw [c_Bm]
  refine m_Bc 6 (fun p a b => ?_)
  show l_tl _ 2 0 _ = l_br K fc yr p
  unfold l_br
  rw [c_PE h a hK hn]
theorem l_br2 {K : Int → Int} {fc yr p : Int} : l_br K fc yr p = 0 ∨ l_br K fc yr p = 1 := l_tl2 _ (Or.inl rfl)
/-- who can take -/
theorem c_FE {w0 K nm : Int → Int} {yr fc lv : Int} {l : Int → Int} (h : c_w w0 (c_0 yr (K 44))) (hK : 0 ≤ K 46 ∧ K 46 ≤ 7) (hn : ∀ i, 0 ≤ i → i < 7 → nm i = K (19 + i)) (hlv : 0 ≤ lv ∧ lv < 64) (hl : ∀ p, 0 ≤ p → p < 6 → cw_iand (cw_ishr lv p) 1 = l p) : cw_iand lv (cw_ixor (c_B (l_fo K fc) w0 nm (K 46) (K 43) 6) (-1)) = l_fit l (l_br K fc yr) 6 := by
  rw [c_BE h hK hn]
  exact m_fit hlv hl (fun p _ _ => l_br2)
/-- what a person gets -/
theorem c_DE {w0 K nm kd : Int → Int} {yr fc fit t p : Int} (h : c_w w0 (c_0 yr (K 44))) (hK : 1 ≤ K 46 ∧ K 46 ≤ 7) (hn : ∀ i, 0 ≤ i → i < 7 → nm i = K (19 + i)) (hk : ∀ j, 0 ≤ j → j < 6 → kd j = K (6 + j)) (ht : 0 ≤ t ∧ t < t_c (K 46 - 1)) (hp : 0 ≤ p ∧ p < 6) : c_D (l_fo K fc) w0 nm (K 46) (g_go kd nm fit (c_S (l_fo K fc) w0) 6 0 (K 46 - 1) t 0 (K 43) (fun _ => 0)) 6 p = G_t K fc yr fit t p := by
  unfold c_D G_t
  rw [if_pos hp, c_SE h, g_goC (kd := kd) (nm := nm) (kd' := fun j => K (6 + j)) (nm' := fun i => K (19 + i)) hk hn 6 (by decide) (by omega) (by omega) ht, c_TE h hp.1 (by omega) hn]
  rfl
