/-! Marks that settle a reading: pure. -/
def e_sm (mk K : Int → Int) : Nat → Int
  | 0 => 0
  | n + 1 => e_sm mk K n + (mk n - K n)
def nu_ (mk : Int → Int) : Nat → Int
  | 0 => 0
  | n + 1 => 4 * nu_ mk n + mk n
theorem e_smc {mk mk' K : Int → Int} : ∀ n : Nat, (∀ j : Int, 0 ≤ j → j < n → mk j = mk' j) → e_sm mk K n = e_sm mk' K n
  | 0, _ => rfl
  | n + 1, h => by
    show e_sm mk K n + (mk n - K n) = e_sm mk' K n + (mk' n - K n)
    rw [e_smc n (fun j a b => h j a (by omega)), h n (by omega) (by omega)]
theorem nu_c {mk mk' : Int → Int} : ∀ n : Nat, (∀ j : Int, 0 ≤ j → j < n → mk j = mk' j) → nu_ mk n = nu_ mk' n
  | 0, _ => rfl
  | n + 1, h => by
    show 4 * nu_ mk n + mk n = 4 * nu_ mk' n + mk' n
    rw [nu_c n (fun j a b => h j a (by omega)), h n (by omega) (by omega)]
theorem nu_r {mk : Int → Int} : ∀ n : Nat, (∀ j : Int, 0 ≤ j → j < n → 0 ≤ mk j ∧ mk j ≤ 3) → 0 ≤ nu_ mk n ∧ nu_ mk n < 4 ^ n
  | 0, _ => ⟨Int.le_refl 0, by show (0 : Int) < 1; decide⟩
  | n + 1, h => by
    have a := nu_r n (fun j x y => h j x (by omega))
    have b := h n (by omega) (by omega)
    show 0 ≤ 4 * nu_ mk n + mk n ∧ 4 * nu_ mk n + mk n < 4 ^ (n + 1)
    rw [Int.pow_succ]
    omega
theorem nu_i {mk mk' : Int → Int} : ∀ n : Nat, (∀ j : Int, 0 ≤ j → j < n → 0 ≤ mk j ∧ mk j ≤ 3) → (∀ j : Int, 0 ≤ j → j < n → 0 ≤ mk' j ∧ mk' j ≤ 3) → nu_ mk n = nu_ mk' n → ∀ j : Int, 0 ≤ j → j < n → mk j = mk' j
  | 0, _, _, _, j, a, b => by omega
  | n + 1, h, h', e, j, a, b => by
    have e : 4 * nu_ mk n + mk n = 4 * nu_ mk' n + mk' n := e
    have x := h n (by omega) (by omega)
    have x' := h' n (by omega) (by omega)
    by_cases q : j = n
    · rw [q]; omega
    · exact nu_i n (fun j x y => h j x (by omega)) (fun j x y => h' j x (by omega)) (by omega) j a (by omega)
/-- rising marks give rising numbers -/
theorem nu_l {mk mk' : Int → Int} {k : Nat} : ∀ n : Nat, k ≤ n → (∀ j : Int, 0 ≤ j → j < n → 0 ≤ mk j ∧ mk j ≤ 3) → (∀ j : Int, 0 ≤ j → j < n → 0 ≤ mk' j ∧ mk' j ≤ 3) → nu_ mk k < nu_ mk' k → nu_ mk n < nu_ mk' n
  | 0, hk, _, _, e => by rw [show k = 0 by omega] at e; exact e
  | n + 1, hk, h, h', e => by
    by_cases q : k = n + 1
    · rw [q] at e; exact e
    · have g := nu_l n (by omega) (fun j x y => h j x (by omega)) (fun j x y => h' j x (by omega)) e
      have x := h n (by omega) (by omega)
      have x' := h' n (by omega) (by omega)
      show 4 * nu_ mk n + mk n < 4 * nu_ mk' n + mk' n
      omega
/-- the digits of a number -/
def dg_ (w N j : Int) : Int := N / 4 ^ (w - 1 - j).toNat % 4
theorem dg_r {w N j : Int} : 0 ≤ dg_ w N j ∧ dg_ w N j ≤ 3 := by unfold dg_; omega
theorem dg_n {w N : Int} (hw : 0 ≤ w) (hN : 0 ≤ N ∧ N < 4 ^ w.toNat) : ∀ k : Nat, (k : Int) ≤ w → nu_ (dg_ w N) k = N / 4 ^ (w - k).toNat
  | 0, _ => by
    show (0 : Int) = N / 4 ^ (w - ((0 : Nat) : Int)).toNat
    rw [show (w - ((0 : Nat) : Int)).toNat = w.toNat by omega]
    exact (Int.ediv_eq_zero_of_lt hN.1 hN.2).symm
  | k + 1, h => by
    show 4 * nu_ (dg_ w N) k + dg_ w N k = _
    rw [dg_n hw hN k (by omega)]
    unfold dg_
    rw [show (w - k).toNat = (w - ((k + 1 : Nat) : Int)).toNat + 1 by omega, show (w - 1 - (k : Int)).toNat = (w - ((k + 1 : Nat) : Int)).toNat by omega, Int.pow_succ, ← Int.ediv_ediv_of_nonneg (Int.le_of_lt (Int.pow_pos (by decide)))]
    omega
theorem dg_nw {w N : Int} (hw : 0 ≤ w) (hN : 0 ≤ N ∧ N < 4 ^ w.toNat) : nu_ (dg_ w N) w.toNat = N := by
  rw [dg_n hw hN w.toNat (by omega), show (w - (w.toNat : Int)).toNat = 0 by omega]
  show N / 1 = N
  omega
theorem dg_b : ∀ (a b : Fin 64) (s : Fin 6), cw_iand (cw_ishr (64 * a.val + b.val) (2 * s.val)) 3 = (64 * (a.val : Int) + b.val) / 4 ^ s.val % 4 := by decide +kernel
theorem dg_x {w N j : Int} (hw : 0 ≤ w ∧ w ≤ 6) (hN : 0 ≤ N ∧ N < 4096) (hj : 0 ≤ j ∧ j < w) : cw_iand (cw_ishr N (2 * (w - 1 - j))) 3 = dg_ w N j := by
  have h := dg_b ⟨(N / 64).toNat, by omega⟩ ⟨(N % 64).toNat, by omega⟩ ⟨(w - 1 - j).toNat, by omega⟩
  rw [show 64 * (((⟨(N / 64).toNat, by omega⟩ : Fin 64).val : Nat) : Int) + (((⟨(N % 64).toNat, by omega⟩ : Fin 64).val : Nat) : Int) = N by show 64 * (((N / 64).toNat : Nat) : Int) + (((N % 64).toNat : Nat) : Int) = N; omega, show (((⟨(w - 1 - j).toNat, by omega⟩ : Fin 6).val : Nat) : Int) = w - 1 - j by show (((w - 1 - j).toNat : Nat) : Int) = w - 1 - j; omega] at h
  exact h
theorem dg_2 : ∀ w : Fin 7, cw_ishl 1 (2 * w.val) = 4 ^ w.val := by decide +kernel
theorem dg_p {w : Int} (hw : 0 ≤ w ∧ w ≤ 6) : cw_ishl 1 (2 * w) = 4 ^ w.toNat ∧ (4 : Int) ^ w.toNat ≤ 4096 := by
  have h := dg_2 ⟨w.toNat, by omega⟩
  rw [show (((⟨w.toNat, by omega⟩ : Fin 7).val : Nat) : Int) = w by show ((w.toNat : Nat) : Int) = w; omega] at h
  refine ⟨h, ?_⟩
  have : ∀ k : Fin 7, (4 : Int) ^ k.val ≤ 4096 := by decide
  exact this ⟨w.toNat, by omega⟩
/-- marks that settle tree t0, and the best of them -/
def S_K (K : Int → Int) (t0 : Int) (mk : Int → Int) : Prop := (∀ j, 0 ≤ j → j < K 46 - 1 → K j ≤ mk j ∧ mk j ≤ 3) ∧ ∀ t, 0 ≤ t → t < t_tm (K 46) → t_R mk (K 46 - 1) t → ∀ p, 0 ≤ p → p < 6 → G_K K t p = G_K K t0 p
theorem t_Rc {mk mk' : Int → Int} {n t : Int} (hn : n ≤ 6) (ht : 0 ≤ t ∧ t < t_c n) (h : ∀ j, 0 ≤ j → j < n → mk j = mk' j) (hR : t_R mk n t) : t_R mk' n t := fun j a b i c d => by
  have l := t_lh hn ht ⟨a, b⟩
  rw [← h j a b, ← h i (by omega) (by omega)]
  exact hR j a b i c d
theorem S_Kc {K : Int → Int} {t0 : Int} {mk mk' : Int → Int} (hn : 1 ≤ K 46 ∧ K 46 ≤ 7) (h : ∀ j, 0 ≤ j → j < K 46 - 1 → mk j = mk' j) (hS : S_K K t0 mk) : S_K K t0 mk' := by
  have tq := t_tmr (n := K 46) (by omega)
  exact ⟨fun j a b => by rw [← h j a b]; exact hS.1 j a b, fun t a b c => hS.2 t a b (t_Rc (by omega) (by omega) (fun j x y => (h j x y).symm) c)⟩
def B_K (K : Int → Int) (t0 : Int) (mk : Int → Int) : Prop := S_K K t0 mk ∧ ∀ mk', S_K K t0 mk' → e_sm mk K (K 46 - 1).toNat < e_sm mk' K (K 46 - 1).toNat ∨ (e_sm mk K (K 46 - 1).toNat = e_sm mk' K (K 46 - 1).toNat ∧ nu_ mk (K 46 - 1).toNat ≤ nu_ mk' (K 46 - 1).toNat)
def s_R (K : Int → Int) (rd w r : Int) : Prop := if (0 ≤ rd ∧ rd < ((R_K K).length : Int)) ∧ 0 ≤ w ∧ w ≤ K 46 - 1 then ((∃ mk, B_K K (t_g (R_K K) rd) mk ∧ ((w = 0 ∧ r = e_sm mk K (K 46 - 1).toNat) ∨ (1 ≤ w ∧ r = mk (w - 1)))) ∨ ((∀ mk, ¬ S_K K (t_g (R_K K) rd) mk) ∧ r = -1)) else r = -1
theorem s_Ru {K : Int → Int} {rd w r r' : Int} (hK : K_r K) (h : s_R K rd w r) (h' : s_R K rd w r') : r = r' := by
  unfold s_R at h h'
  by_cases q : (0 ≤ rd ∧ rd < ((R_K K).length : Int)) ∧ 0 ≤ w ∧ w ≤ K 46 - 1
  · rw [if_pos q] at h h'
    have rg : ∀ mk, S_K K (t_g (R_K K) rd) mk → ∀ j : Int, 0 ≤ j → j < ((K 46 - 1).toNat : Nat) → 0 ≤ mk j ∧ mk j ≤ 3 := fun mk s j a b => by
      have x := s.1 j a (by omega)
      have y := hK.2.1 j a (by have := hK.1; omega)
      omega
    rcases h with ⟨mk, b, c⟩ | ⟨n, e⟩
    · rcases h' with ⟨mk', b', c'⟩ | ⟨n', e'⟩
      · have x := b.2 mk' b'.1
        have y := b'.2 mk b.1
        have se : e_sm mk K (K 46 - 1).toNat = e_sm mk' K (K 46 - 1).toNat := by omega
        have ne : nu_ mk (K 46 - 1).toNat = nu_ mk' (K 46 - 1).toNat := by omega
        have di := nu_i (K 46 - 1).toNat (rg mk b.1) (rg mk' b'.1) ne
        rcases c with ⟨w0, c⟩ | ⟨w1, c⟩
        · rcases c' with ⟨-, c'⟩ | ⟨w1, -⟩
          · rw [c, c', se]
          · omega
        · rcases c' with ⟨w0, -⟩ | ⟨-, c'⟩
          · omega
          · rw [c, c', di (w - 1) (by omega) (by omega)]
      · exact absurd b.1 (n' mk)
    · rcases h' with ⟨mk', b', c'⟩ | ⟨n', e'⟩
      · exact absurd b'.1 (n mk')
      · rw [e, e']
  · rw [if_neg q] at h h'
    rw [h, h']
