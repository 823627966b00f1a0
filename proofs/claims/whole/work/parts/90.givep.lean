/-! Who takes and what goes to whom in a piece: pure. -/
def g_lf (fit out p : Int) : Bool := decide (cw_iand (cw_ishr (cw_iand fit (cw_ixor out (-1))) p) 1 = 1)
def g_nm (nm : Int → Int) (j b : Int) : Int := f_msk nm (j + 1) (b + 1 - (j + 1)).toNat
/-- whether a piece takes: a its first name, n its joins, k its number -/
def g_tk (kd nm : Int → Int) (fit : Int) : Nat → Int → Int → Int → Int → Bool
  | 0, a, _, _, out => g_lf fit out (nm a)
  | f + 1, a, n, k, out => if n ≤ 0 then g_lf fit out (nm a) else
    if kd (a + t_top n k) = 2 then g_tk kd nm fit f a (t_top n k) (t_lk n k) (cw_ior out (g_nm nm (a + t_top n k) (a + n)))
    else g_tk kd nm fit f a (t_top n k) (t_lk n k) out || g_tk kd nm fit f (a + t_top n k + 1) (n - t_top n k - 1) (t_rk n k) out
def g_hr (nm : Int → Int) (fit a out worth : Int) (wd : Int → Int) : Int → Int := if g_lf fit out (nm a) = true then cw_up wd (nm a) (wd (nm a) + worth) else wd
/-- what goes to whom; sh: of each 100 what the left has -/
def g_go (kd nm : Int → Int) (fit : Int) (sh : Int → Int → Int → Int → Int) : Nat → Int → Int → Int → Int → Int → (Int → Int) → (Int → Int)
  | 0, a, _, _, out, worth, wd => g_hr nm fit a out worth wd
  | f + 1, a, n, k, out, worth, wd => if n ≤ 0 then g_hr nm fit a out worth wd else
    if kd (a + t_top n k) = 2 then g_go kd nm fit sh f a (t_top n k) (t_lk n k) (cw_ior out (g_nm nm (a + t_top n k) (a + n))) worth wd
    else if g_tk kd nm fit f a (t_top n k) (t_lk n k) out = true then
      (if g_tk kd nm fit f (a + t_top n k + 1) (n - t_top n k - 1) (t_rk n k) out = true ∧ kd (a + t_top n k) = 0 then
        g_go kd nm fit sh f (a + t_top n k + 1) (n - t_top n k - 1) (t_rk n k) out (worth - worth * sh (a + t_top n k) (t_top n k + 1) (n - t_top n k) worth / 100) (g_go kd nm fit sh f a (t_top n k) (t_lk n k) out (worth * sh (a + t_top n k) (t_top n k + 1) (n - t_top n k) worth / 100) wd)
      else g_go kd nm fit sh f a (t_top n k) (t_lk n k) out worth wd)
    else if g_tk kd nm fit f (a + t_top n k + 1) (n - t_top n k - 1) (t_rk n k) out = true then g_go kd nm fit sh f (a + t_top n k + 1) (n - t_top n k - 1) (t_rk n k) out worth wd
    else wd
section GG
variable {kd nm : Int → Int} {fit : Int} {sh : Int → Int → Int → Int → Int}
theorem g_tk0 {f : Nat} {a n k out : Int} (h : n ≤ 0) : g_tk kd nm fit f a n k out = g_lf fit out (nm a) := by
  cases f with
  | zero => rfl
  | succ f => rw [g_tk, if_pos h]
theorem g_tkB {f : Nat} {a n k out : Int} (h : ¬ n ≤ 0) (hk : kd (a + t_top n k) = 2) : g_tk kd nm fit (f + 1) a n k out = g_tk kd nm fit f a (t_top n k) (t_lk n k) (cw_ior out (g_nm nm (a + t_top n k) (a + n))) := by
  rw [g_tk, if_neg h, if_pos hk]
theorem g_tkO {f : Nat} {a n k out : Int} (h : ¬ n ≤ 0) (hk : kd (a + t_top n k) ≠ 2) : g_tk kd nm fit (f + 1) a n k out = (g_tk kd nm fit f a (t_top n k) (t_lk n k) out || g_tk kd nm fit f (a + t_top n k + 1) (n - t_top n k - 1) (t_rk n k) out) := by
  rw [g_tk, if_neg h, if_neg hk]
theorem g_go0 {f : Nat} {a n k out worth : Int} {wd : Int → Int} (h : n ≤ 0) : g_go kd nm fit sh f a n k out worth wd = g_hr nm fit a out worth wd := by
  cases f with
  | zero => rfl
  | succ f => rw [g_go, if_pos h]
theorem g_goB {f : Nat} {a n k out worth : Int} {wd : Int → Int} (h : ¬ n ≤ 0) (hk : kd (a + t_top n k) = 2) : g_go kd nm fit sh (f + 1) a n k out worth wd = g_go kd nm fit sh f a (t_top n k) (t_lk n k) (cw_ior out (g_nm nm (a + t_top n k) (a + n))) worth wd := by
  rw [g_go, if_neg h, if_pos hk]
theorem g_goA {f : Nat} {a n k out worth : Int} {wd : Int → Int} (h : ¬ n ≤ 0) (hk : kd (a + t_top n k) = 0) (hl : g_tk kd nm fit f a (t_top n k) (t_lk n k) out = true) (hr : g_tk kd nm fit f (a + t_top n k + 1) (n - t_top n k - 1) (t_rk n k) out = true) : g_go kd nm fit sh (f + 1) a n k out worth wd = g_go kd nm fit sh f (a + t_top n k + 1) (n - t_top n k - 1) (t_rk n k) out (worth - worth * sh (a + t_top n k) (t_top n k + 1) (n - t_top n k) worth / 100) (g_go kd nm fit sh f a (t_top n k) (t_lk n k) out (worth * sh (a + t_top n k) (t_top n k + 1) (n - t_top n k) worth / 100) wd) := by
  rw [g_go, if_neg h, if_neg (by omega), if_pos hl, if_pos ⟨hr, hk⟩]
theorem g_goL {f : Nat} {a n k out worth : Int} {wd : Int → Int} (h : ¬ n ≤ 0) (hk : kd (a + t_top n k) ≠ 2) (hl : g_tk kd nm fit f a (t_top n k) (t_lk n k) out = true) (hr : ¬ (g_tk kd nm fit f (a + t_top n k + 1) (n - t_top n k - 1) (t_rk n k) out = true ∧ kd (a + t_top n k) = 0)) : g_go kd nm fit sh (f + 1) a n k out worth wd = g_go kd nm fit sh f a (t_top n k) (t_lk n k) out worth wd := by
  rw [g_go, if_neg h, if_neg hk, if_pos hl, if_neg hr]
theorem g_goR {f : Nat} {a n k out worth : Int} {wd : Int → Int} (h : ¬ n ≤ 0) (hk : kd (a + t_top n k) ≠ 2) (hl : g_tk kd nm fit f a (t_top n k) (t_lk n k) out ≠ true) (hr : g_tk kd nm fit f (a + t_top n k + 1) (n - t_top n k - 1) (t_rk n k) out = true) : g_go kd nm fit sh (f + 1) a n k out worth wd = g_go kd nm fit sh f (a + t_top n k + 1) (n - t_top n k - 1) (t_rk n k) out worth wd := by
  rw [g_go, if_neg h, if_neg hk, if_neg hl, if_pos hr]
theorem g_goN {f : Nat} {a n k out worth : Int} {wd : Int → Int} (h : ¬ n ≤ 0) (hk : kd (a + t_top n k) ≠ 2) (hl : g_tk kd nm fit f a (t_top n k) (t_lk n k) out ≠ true) (hr : g_tk kd nm fit f (a + t_top n k + 1) (n - t_top n k - 1) (t_rk n k) out ≠ true) : g_go kd nm fit sh (f + 1) a n k out worth wd = wd := by
  rw [g_go, if_neg h, if_neg hk, if_neg hl, if_neg hr]
/-- a piece that takes not gets nothing -/
theorem g_goX : ∀ (f : Nat) {a n k out worth : Int} {wd : Int → Int}, g_tk kd nm fit f a n k out ≠ true → g_go kd nm fit sh f a n k out worth wd = wd
  | 0, a, n, k, out, worth, wd, h => by
    show g_hr nm fit a out worth wd = wd
    unfold g_hr; exact if_neg h
  | f + 1, a, n, k, out, worth, wd, h => by
    by_cases hn : n ≤ 0
    · rw [g_tk0 hn] at h
      rw [g_go0 hn]; unfold g_hr; rw [if_neg h]
    by_cases hk : kd (a + t_top n k) = 2
    · rw [g_tkB hn hk] at h
      rw [g_goB hn hk]; exact g_goX f h
    rw [g_tkO hn hk, ne_eq, Bool.or_eq_true] at h
    exact g_goN hn hk (fun q => h (Or.inl q)) (fun q => h (Or.inr q))
/-- what comes lies within what is given -/
theorem g_gor (hsh : ∀ j l r w, 0 ≤ sh j l r w ∧ sh j l r w ≤ 100) : ∀ (f : Nat) {a n k out worth : Int} {wd : Int → Int} (p : Int), 0 ≤ worth → wd p ≤ g_go kd nm fit sh f a n k out worth wd p ∧ g_go kd nm fit sh f a n k out worth wd p ≤ wd p + worth := by
  have leaf : ∀ {a out worth : Int} {wd : Int → Int} (p : Int), 0 ≤ worth → wd p ≤ g_hr nm fit a out worth wd p ∧ g_hr nm fit a out worth wd p ≤ wd p + worth := by
    intro a out worth wd p hw
    unfold g_hr
    by_cases q : g_lf fit out (nm a) = true
    · rw [if_pos q]
      by_cases e : p = nm a
      · rw [e, cw_up_eq]; omega
      · rw [cw_up_ne e]; omega
    · rw [if_neg q]; omega
  intro f
  induction f with
  | zero => intro a n k out worth wd p hw; exact leaf p hw
  | succ f ih =>
    intro a n k out worth wd p hw
    by_cases hn : n ≤ 0
    · rw [g_go0 hn]; exact leaf p hw
    by_cases hk : kd (a + t_top n k) = 2
    · rw [g_goB hn hk]; exact ih p hw
    by_cases hl : g_tk kd nm fit f a (t_top n k) (t_lk n k) out = true
    · by_cases hr : g_tk kd nm fit f (a + t_top n k + 1) (n - t_top n k - 1) (t_rk n k) out = true ∧ kd (a + t_top n k) = 0
      · rw [g_goA hn hr.2 hl hr.1]
        have s := hsh (a + t_top n k) (t_top n k + 1) (n - t_top n k) worth
        have s0 : 0 ≤ worth * sh (a + t_top n k) (t_top n k + 1) (n - t_top n k) worth := Int.mul_nonneg hw s.1
        have s1 : worth * sh (a + t_top n k) (t_top n k + 1) (n - t_top n k) worth ≤ worth * 100 := Int.mul_le_mul_of_nonneg_left s.2 hw
        have u := ih (a := a) (n := t_top n k) (k := t_lk n k) (out := out) (worth := worth * sh (a + t_top n k) (t_top n k + 1) (n - t_top n k) worth / 100) (wd := wd) p (by omega)
        have w := ih (a := a + t_top n k + 1) (n := n - t_top n k - 1) (k := t_rk n k) (out := out) (worth := worth - worth * sh (a + t_top n k) (t_top n k + 1) (n - t_top n k) worth / 100) (wd := g_go kd nm fit sh f a (t_top n k) (t_lk n k) out (worth * sh (a + t_top n k) (t_top n k + 1) (n - t_top n k) worth / 100) wd) p (by omega)
        omega
      · rw [g_goL hn hk hl hr]; exact ih p hw
    · by_cases hr : g_tk kd nm fit f (a + t_top n k + 1) (n - t_top n k - 1) (t_rk n k) out = true
      · rw [g_goR hn hk hl hr]; exact ih p hw
      · rw [g_goN hn hk hl hr]; omega
end GG
theorem g_shb {w s : Int} (hw : 0 ≤ w ∧ w ≤ 9999) (hs : 0 ≤ s ∧ s ≤ 100) : 0 ≤ w * s ∧ w * s ≤ 999900 ∧ 0 ≤ w * s / 100 ∧ w * s / 100 ≤ w := by
  have s0 : 0 ≤ w * s := Int.mul_nonneg hw.1 hs.1
  have s1 : w * s ≤ w * 100 := Int.mul_le_mul_of_nonneg_left hs.2 hw.1
  omega
/-- the depths and bounds of a piece -/
theorem t_qL {f : Nat} {a n k dp ov x : Int} (h : a ≤ x ∧ x < a + t_top n k) : t_q (f + 1) a n k dp ov x = t_q f a (t_top n k) (t_lk n k) (dp + 1) (a + t_top n k) x := t_q_left h.2
theorem t_qR {f : Nat} {a n k dp ov x : Int} (h : a + t_top n k + 1 ≤ x) : t_q (f + 1) a n k dp ov x = t_q f (a + t_top n k + 1) (n - t_top n k - 1) (t_rk n k) (dp + 1) (a + t_top n k) x := t_q_right (by omega)
/-- where a piece's row of numbers lies -/
def t_pl (g : Int × Int × Int × Int → Int) (row : Int → Int) (b : Int) (f : Nat) (a n k dp ov : Int) : Prop := ∀ x, a ≤ x → x < a + n → row (b + x) = g (t_q f a n k dp ov x)
theorem t_plL {g : Int × Int × Int × Int → Int} {row : Int → Int} {b : Int} {f : Nat} {a n k dp ov : Int} (h : t_pl g row b (f + 1) a n k dp ov) (ht : t_top n k < n) : t_pl g row b f a (t_top n k) (t_lk n k) (dp + 1) (a + t_top n k) := fun x h1 h2 => by rw [h x h1 (by omega), t_qL ⟨h1, h2⟩]
theorem t_plR {g : Int × Int × Int × Int → Int} {row : Int → Int} {b : Int} {f : Nat} {a n k dp ov : Int} (h : t_pl g row b (f + 1) a n k dp ov) (ht : 0 ≤ t_top n k) : t_pl g row b f (a + t_top n k + 1) (n - t_top n k - 1) (t_rk n k) (dp + 1) (a + t_top n k) := fun x h1 h2 => by rw [h x (by omega) (by omega), t_qR h1]
/-- only what persons get matters -/
theorem g_goc {kd nm : Int → Int} {fit : Int} {sh : Int → Int → Int → Int → Int} : ∀ (f : Nat) {a n k out worth : Int} {wd wd' : Int → Int}, (∀ p, 0 ≤ p → p < 6 → wd p = wd' p) → ∀ p, 0 ≤ p → p < 6 → g_go kd nm fit sh f a n k out worth wd p = g_go kd nm fit sh f a n k out worth wd' p := by
  have leaf : ∀ {a out worth : Int} {wd wd' : Int → Int}, (∀ p, 0 ≤ p → p < 6 → wd p = wd' p) → ∀ p, 0 ≤ p → p < 6 → g_hr nm fit a out worth wd p = g_hr nm fit a out worth wd' p := by
    intro a out worth wd wd' h p p0 p1
    unfold g_hr
    by_cases q : g_lf fit out (nm a) = true
    · rw [if_pos q, if_pos q]
      by_cases e : p = nm a
      · rw [e, cw_up_eq, cw_up_eq, h _ (by omega) (by omega)]
      · rw [cw_up_ne e, cw_up_ne e, h p p0 p1]
    · rw [if_neg q, if_neg q]; exact h p p0 p1
  intro f
  induction f with
  | zero => intro a n k out worth wd wd' h; exact leaf h
  | succ f ih =>
    intro a n k out worth wd wd' h
    by_cases hn : n ≤ 0
    · rw [g_go0 hn, g_go0 hn]; exact leaf h
    by_cases hk : kd (a + t_top n k) = 2
    · rw [g_goB hn hk, g_goB hn hk]; exact ih h
    by_cases hl : g_tk kd nm fit f a (t_top n k) (t_lk n k) out = true
    · by_cases hr : g_tk kd nm fit f (a + t_top n k + 1) (n - t_top n k - 1) (t_rk n k) out = true ∧ kd (a + t_top n k) = 0
      · rw [g_goA hn hr.2 hl hr.1, g_goA hn hr.2 hl hr.1]; exact ih (ih h)
      · rw [g_goL hn hk hl hr, g_goL hn hk hl hr]; exact ih h
    · by_cases hr : g_tk kd nm fit f (a + t_top n k + 1) (n - t_top n k - 1) (t_rk n k) out = true
      · rw [g_goR hn hk hl hr, g_goR hn hk hl hr]; exact ih h
      · rw [g_goN hn hk hl hr, g_goN hn hk hl hr]; exact h
/-- by a law fc, a year yr: the share at a join, the tax, who is barred -/
noncomputable def l_Sh (K : Int → Int) (fc yr j l r w : Int) : Int := l_tl (l_fo K fc) 0 50 (l_E K yr j l r w (-1))
noncomputable def l_tx (K : Int → Int) (fc yr p w : Int) : Int := l_tl (l_fo K fc) 1 0 (l_E K yr (-1) (-1) (-1) w p)
noncomputable def l_br (K : Int → Int) (fc yr p : Int) : Int := l_tl (l_fo K fc) 2 0 (l_E K yr (-1) (-1) (-1) (K 43) p)
theorem l_Shr {K : Int → Int} {fc yr j l r w : Int} : 0 ≤ l_Sh K fc yr j l r w ∧ l_Sh K fc yr j l r w ≤ 100 := l_tlr (by decide)
theorem l_txr {K : Int → Int} {fc yr p w : Int} : 0 ≤ l_tx K fc yr p w ∧ l_tx K fc yr p w ≤ 100 := l_tlr (by decide)
noncomputable def G_w (K : Int → Int) (fc yr fit t : Int) : Int → Int := g_go (fun j => K (6 + j)) (fun i => K (19 + i)) fit (l_Sh K fc yr) 6 0 (K 46 - 1) t 0 (K 43) (fun _ => 0)
/-- what a person gets in a tree -/
noncomputable def G_t (K : Int → Int) (fc yr fit t p : Int) : Int := G_w K fc yr fit t p - G_w K fc yr fit t p * l_tx K fc yr p (G_w K fc yr fit t p) / 100
theorem G_wr {K : Int → Int} {fc yr fit t p : Int} (hw : 0 ≤ K 43 ∧ K 43 ≤ 9999) : 0 ≤ G_w K fc yr fit t p ∧ G_w K fc yr fit t p ≤ 9999 := by
  have h := g_gor (kd := fun j => K (6 + j)) (nm := fun i => K (19 + i)) (fit := fit) (sh := l_Sh K fc yr) (fun _ _ _ _ => l_Shr) 6 (a := 0) (n := K 46 - 1) (k := t) (out := 0) (worth := K 43) (wd := fun _ => 0) p hw.1
  show 0 ≤ g_go _ _ _ _ _ _ _ _ _ _ _ p ∧ g_go _ _ _ _ _ _ _ _ _ _ _ p ≤ 9999
  have h1 : (0 : Int) ≤ g_go (fun j => K (6 + j)) (fun i => K (19 + i)) fit (l_Sh K fc yr) 6 0 (K 46 - 1) t 0 (K 43) (fun _ => 0) p := h.1
  have h2 : g_go (fun j => K (6 + j)) (fun i => K (19 + i)) fit (l_Sh K fc yr) 6 0 (K 46 - 1) t 0 (K 43) (fun _ => 0) p ≤ 0 + K 43 := h.2
  omega
theorem G_tr {K : Int → Int} {fc yr fit t p : Int} (hw : 0 ≤ K 43 ∧ K 43 ≤ 9999) : 0 ≤ G_t K fc yr fit t p ∧ G_t K fc yr fit t p ≤ 9999 := by
  have h1 := G_wr (fc := fc) (yr := yr) (fit := fit) (t := t) (p := p) hw
  have h2 := g_shb h1 (l_txr (K := K) (fc := fc) (yr := yr) (p := p) (w := G_w K fc yr fit t p))
  unfold G_t
  omega
