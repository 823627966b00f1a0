/-! What holds between two calls (wip/whole/tools/m149.py). -/
def j_cd (c n t : Int) : Int := (c * 16384 + n) * 64 + t
/-- a cell made later, none of an image -/
def j_x (N c0 c1 x : Int) : Prop := (h_c x ∧ x < N * 1048576) ∧ ¬ (c0 ≤ cw_ce x ∧ cw_ce x ≤ c0 + 8) ∧ ¬ (c1 ≤ cw_ce x ∧ cw_ce x ≤ c1 + 8)
def j_t (m : cw_M) (c0 c1 T : Int) : Prop := j_x (m (-1) 0) c0 c1 T ∧ j_x (m (-1) 0) c0 c1 (m T 2) ∧ j_x (m (-1) 0) c0 c1 (m T 3) ∧ j_x (m (-1) 0) c0 c1 (m T 5) ∧ j_x (m (-1) 0) c0 c1 (m T 7)
/-- laws, or none -/
def j_v (la : Int → Int) : Prop := ∀ i, 0 ≤ i → i < 6 → la i = 0 ∨ cw_tg (la i) = 8
/-- the rows of an image -/
def j_w (m : cw_M) (J c : Int) : Prop := J = j_cd c 14 9 ∧ m J 1 = j_cd (c + 1) 7 40 ∧ m J 2 = j_cd (c + 2) 6 40 ∧ m J 3 = j_cd (c + 3) 6 40 ∧ m J 5 = j_cd (c + 4) 4 40 ∧ m J 7 = j_cd (c + 5) 5 40 ∧ m J 9 = j_cd (c + 6) 6 40 ∧ m J 10 = j_cd (c + 7) 6 40 ∧ m J 12 = j_cd (c + 8) 6 44
def j_q (m : cw_M) (J : Int) (K : Int → Int) : Prop := W_q (m J 0) (m J 4) (m J 6) (m J 8) (m J 11) (m J 13) (m (m J 1)) (m (m J 2)) (m (m J 3)) (m (m J 5)) (m (m J 7)) (m (m J 9)) (m (m J 10)) (m (m J 12)) m K
def j_i (m : cw_M) (c0 c1 c J has : Int) (K : Int → Int) : Prop := (c = -100 ∧ J = 0 ∧ has = 0) ∨ ((124 ≤ c ∧ c + 8 < m (-1) 0) ∧ has ≠ 0 ∧ j_w m J c ∧ j_q m J K ∧ K_r K ∧ (∀ i, 0 ≤ i → i < K 49 → j_t m c0 c1 (m (m J 12) i)) ∧ j_v (m (m J 12)))
def j_H (m : cw_M) (K has im : Int → Int) : Prop := ∃ c0 c1, (c0 = -100 ∨ c1 = -100 ∨ c0 + 8 < c1 ∨ c1 + 8 < c0) ∧ j_i m c0 c1 c0 (m x_images_ 0) (has 0) (fun x => im (5658 * 0 + x)) ∧ j_i m c0 c1 c1 (m x_images_ 1) (has 1) (fun x => im (5658 * 1 + x)) ∧ (∀ i, 0 ≤ i → i < K 49 → j_t m c0 c1 (m x_will_lawAt_ i)) ∧ j_v (m x_will_lawAt_)
def j_T (l : Int) (ba : Int → Int) (l' : Int) (tp : Int → Int) : Prop := l = l' ∧ (0 ≤ l ∧ l ≤ 400) ∧ ∀ i, 0 ≤ i → i < l → (0 ≤ ba i ∧ ba i ≤ 255) ∧ tp i = cw_i2b (ba i)
def j_D (lv has : Int) (dm : Int → Int) : Prop := (lv = -1 ∧ has = 0) ∨ (has ≠ 0 ∧ b_L dm lv)
def j_R (rx rm : Int → Int) : Prop := rx 0 = rm 1 ∧ rx 1 = rm 2 ∧ rx 2 = rm 3 ∧ rx 3 = rm 5 ∧ rx 4 = rm 6
/-- the entry that a deed changes -/
def g_ix (w p : Int) : Int := if w = 0 then p else if w = 1 then 6 + p else if w = 2 then 12 + p else 18
def K_u (i v : Int) : Prop := (0 ≤ i ∧ i < 6 ∧ 0 ≤ v ∧ v ≤ 3) ∨ (6 ≤ i ∧ i < 12 ∧ 0 ≤ v ∧ v ≤ 2) ∨ (12 ≤ i ∧ i < 18 ∧ (v = 0 ∨ v = 1)) ∨ (i = 18 ∧ 0 ≤ v ∧ v ≤ 999)
/-- what can be undone: the class keeps one entry, the reference all -/
def j_G (n : Int) (wt wh ws : Int → Int) (un : Int) (L K : Int → Int) : Prop := (n = un ∧ 0 ≤ n ∧ n ≤ 16) ∧ ∀ i, 0 ≤ i → i < n → ((0 ≤ wt i ∧ wt i ≤ 3) ∧ (wt i ≤ 2 → 0 ≤ wh i ∧ wh i < 6) ∧ (wt i = 2 → ws i = 1) ∧ K_u (g_ix (wt i) (wh i)) (ws i)) ∧ L (20 * i + 19) = wt i ∧ ∀ x, 0 ≤ x → x < 19 → L (20 * i + x) = if x = g_ix (wt i) (wh i) then ws i else (if i + 1 < n then L (20 * (i + 1) + x) else K x)
def J_A (a : cw_M) (K : Int → Int) : Prop := K_r K ∧ W_r a K ∧ Z_c a K ∧ E_s a K
def J_B (n : Int) (b : cw_M) : Prop := k_tab (b m_words_) 0 k_WL ∧ ∀ k, 0 ≤ k → k < 7 → 0 ≤ b m_refused_ k ∧ b m_refused_ k ≤ n
def J_C (a b : cw_M) : Prop := j_R (a x_refusals_) (b m_refused_) ∧ (a x_ 16 = b m_ 0 ∧ a x_ 14 = b m_ 6 ∧ a x_ 15 = b m_ 45 ∧ a x_reader_ 2 = b m_ 14) ∧ j_T (a x_reader_ 1) (a x_reader_bytes_) (b m_ 13) (b m_tape_) ∧ j_D (a x_ 17) (b m_ 53) (b m_drawnMoved_) ∧ j_G (a x_log_ 0) (a x_log_what_) (a x_log_where_) (a x_log_was_) (b m_ 44) (b m_left0_) (b m_kept_) ∧ j_H a (b m_kept_) (b m_hasImage_) (b m_images_)
def J_N (n sc : Int) (S : Int → Int) (a : cw_M) : Prop := a sc = S ∧ (0 ≤ n ∧ n ≤ 600) ∧ (124 ≤ a (-1) 0 ∧ a (-1) 0 ≤ 124 + 9 * n) ∧ 0 ≤ a (-1) 1 ∧ a (-1) 1 ≤ 100000 + 500 * n
/-- all that holds between two calls, after n of them -/
def J_I (n sc : Int) (S : Int → Int) (m : cw_M) : Prop := (la_ok m ∧ la_k m) ∧ J_A m (m m_kept_) ∧ J_B n m ∧ J_C m m ∧ J_N n sc S m
/-- the reference's call leaves alone what isn't its own -/
def F_m (a b : cw_M) : Prop := ∀ c, ¬ (m_ ≤ c ∧ c < 130023424) → b c = a c
theorem F_mt {a b c : cw_M} (h : F_m a b) (h2 : F_m b c) : F_m a c := fun x q => by rw [h2 x q, h x q]
theorem F_mU {a b : cw_M} (h : U_s a b) : F_m a b := fun c q => h.1 c (fun z => q ((show ∀ x ∈ U_C, m_ ≤ x ∧ x < 130023424 by decide) c z)) (fun z => q (by rw [z]; decide))
theorem F_mp {a : cw_M} {c j v : Int} (hc : m_ ≤ c ∧ c < 130023424) : F_m a (cw_put a c j v) := fun x q => cw_put_ne (fun z => q (by rw [z]; exact hc))
theorem F_mw {a : cw_M} {c : Int} {f : Int → Int} (hc : m_ ≤ c ∧ c < 130023424) : F_m a (cw_row a c f) := fun x q => cw_row_ne (fun z => q (by rw [z]; exact hc))
theorem F_mr {a : cw_M} : F_m a a := fun _ _ => rfl
theorem F_mh {a b : cw_M} (h : F_m a b) : ∀ c, h_c c → b c = a c := fun c q => h c (fun z => absurd z.2 (by unfold h_c at q; omega))
theorem W_rF {a b : cw_M} {K : Int → Int} (h : F_m a b) (hW : W_r a K) : W_r b K := by
  unfold W_r at hW ⊢
  rw [h x_will_ (by decide), h x_will_owner_ (by decide), h x_will_kinds_ (by decide), h x_will_marks_ (by decide), h x_will_terms_ (by decide), h x_will_held_ (by decide), h x_will_toldOf_ (by decide), h x_will_toldMuch_ (by decide), h x_will_lawAt_ (by decide)]
  exact W_qe hW (F_mh h)
theorem Z_cF {a b : cw_M} {K : Int → Int} (h : F_m a b) (hZ : Z_c a K) : Z_c b K := by
  refine ⟨S_ce hZ.1 (h _ (by decide)) (h _ (by decide)) (h _ (by decide)) (h _ (by decide)) (by rw [h _ (by decide)]), fun i q => ?_, ?_, fun q => ?_⟩
  · rw [h _ (by decide), h _ (by decide)]; exact hZ.2.1 i q
  · rw [h _ (by decide)]; exact hZ.2.2.1
  · rw [h _ (by decide)] at q
    exact L_ce (hZ.2.2.2 q) (h _ (by decide)) (h _ (by decide)) (h _ (by decide)) (h _ (by decide)) (F_mh h) (h _ (by decide))
theorem E_sF {a b : cw_M} {K : Int → Int} (h : F_m a b) (hE : E_s a K) : E_s b K := by
  unfold E_s at hE ⊢
  rw [h x_settler_ (by decide), h x_settler_trial_ (by decide)]
  exact hE
theorem J_AF {a b : cw_M} {K : Int → Int} (h : F_m a b) (hA : J_A a K) : J_A b K := ⟨hA.1, W_rF h hA.2.1, Z_cF h hA.2.2.1, E_sF h hA.2.2.2⟩
/-- the heap of the class, seen from another memory -/
theorem j_te {a b : cw_M} {c0 c1 T : Int} (h : ∀ c, h_c c → b c = a c) (hN : b (-1) = a (-1)) (ht : j_t a c0 c1 T) : j_t b c0 c1 T := by
  unfold j_t at ht ⊢
  rw [hN, h T ht.1.1.1]
  exact ht
theorem j_ih {a : cw_M} {J c : Int} (hc : 124 ≤ c) (hw : j_w a J c) : h_c J ∧ h_c (a J 1) ∧ h_c (a J 2) ∧ h_c (a J 3) ∧ h_c (a J 5) ∧ h_c (a J 7) ∧ h_c (a J 9) ∧ h_c (a J 10) ∧ h_c (a J 12) := by
  unfold j_w j_cd at hw
  unfold h_c
  omega
theorem j_ie {a b : cw_M} {c0 c1 c J has : Int} {K : Int → Int} (h : ∀ c, h_c c → b c = a c) (hN : b (-1) = a (-1)) (hi : j_i a c0 c1 c J has K) : j_i b c0 c1 c J has K := by
  rcases hi with hi | ⟨h1, h2, h3, h4, h5, h6, h7⟩
  · exact Or.inl hi
  · have q := j_ih h1.1 h3
    have eJ := h J q.1
    have e12 := h _ q.2.2.2.2.2.2.2.2
    refine Or.inr ⟨by rw [hN]; exact h1, h2, by unfold j_w at h3 ⊢; rw [eJ]; exact h3, ?_, h5, fun i x y => ?_, by rw [eJ, e12]; exact h7⟩
    · unfold j_q at h4 ⊢
      rw [eJ, h _ q.2.1, h _ q.2.2.1, h _ q.2.2.2.1, h _ q.2.2.2.2.1, h _ q.2.2.2.2.2.1, h _ q.2.2.2.2.2.2.1, h _ q.2.2.2.2.2.2.2.1, e12]
      exact W_qe h4 h
    · rw [eJ, e12]; exact j_te h hN (h6 i x y)
theorem j_He {a b : cw_M} {K has im : Int → Int} (h : ∀ c, h_c c → b c = a c) (hN : b (-1) = a (-1)) (hx : b x_images_ = a x_images_) (hl : b x_will_lawAt_ = a x_will_lawAt_) (hH : j_H a K has im) : j_H b K has im := by
  obtain ⟨c0, c1, h1, h2, h3, h4, h5⟩ := hH
  refine ⟨c0, c1, h1, ?_, ?_, fun i x y => ?_, by rw [hl]; exact h5⟩
  · rw [hx]; exact j_ie h hN h2
  · rw [hx]; exact j_ie h hN h3
  · rw [hl]; exact j_te h hN (h4 i x y)
theorem J_CF {a b z : cw_M} (h : F_m a b) (hC : J_C a z) : J_C b z := by
  obtain ⟨h1, h2, h3, h4, h5, h6⟩ := hC
  have ex := h x_ (by decide)
  have er := h x_reader_ (by decide)
  refine ⟨by rw [h _ (by decide)]; exact h1, by rw [ex, er]; exact h2, by rw [er, h x_reader_bytes_ (by decide)]; exact h3, by rw [ex]; exact h4, by rw [h x_log_ (by decide), h x_log_what_ (by decide), h x_log_where_ (by decide), h x_log_was_ (by decide)]; exact h5, j_He (F_mh h) (h _ (by decide)) (h _ (by decide)) (h _ (by decide)) h6⟩
theorem J_NF {n sc : Int} {S : Int → Int} {a b : cw_M} (hs : sc < m_) (h : F_m a b) (hN : J_N n sc S a) : J_N n sc S b := by
  unfold J_N at hN ⊢
  rw [h sc (by omega), h (-1) (by decide)]
  exact hN
theorem la_kF {a b : cw_M} (h : F_m a b) (hc : b m_catalan_ = a m_catalan_) (hk : la_k a) : la_k b := by
  have hm : (33554432 : Int) ≤ m_ := by decide
  refine ⟨fun c x y z => ?_, fun j x y => by rw [hc]; exact hk.2 j x y⟩
  rw [h c (fun q => absurd q.1 (by omega))]
  exact hk.1 c x y z
/-- after the class's call and the reference's -/
theorem J_up {n sc : Int} {S : Int → Int} {a b : cw_M} (hs : sc < m_) (hb : la_ok b) (h : F_m a b) (hc : b m_catalan_ = a m_catalan_) (hk : la_k a) (hA : J_A a (b m_kept_)) (hB : J_B n b) (hC : J_C a b) (hN : J_N n sc S a) : J_I n sc S b := ⟨⟨hb, la_kF h hc hk⟩, J_AF h hA, hB, J_CF h hC, J_NF hs h hN⟩
theorem J_Bm {n : Int} {b : cw_M} (h : J_B n b) : J_B (n + 1) b := ⟨h.1, fun k x y => by have := h.2 k x y; omega⟩
theorem J_Nm {n sc : Int} {S : Int → Int} {a : cw_M} (hn : n < 600) (h : J_N n sc S a) : J_N (n + 1) sc S a := ⟨h.1, by have := h.2.1; omega, by have := h.2.2.1; omega, by have := h.2.2.2; omega⟩
/-- the class's call leaves alone what isn't its own -/
theorem V_pk {m a : cw_M} (h : V_p m a) : ∀ c, (c < 33554432 ∨ m_ ≤ c) → a c = m c := fun c q => h.1 c (fun z => by have := (show ∀ x ∈ X_P, 33554432 ≤ x ∧ x < m_ by decide) c z; omega) (fun z => by rw [z] at q; revert q; decide)
theorem V_pl {m a : cw_M} (h : V_p m a) (hk : la_k m) : la_k a := ⟨fun c x y z => by rw [V_pk h c (Or.inl y)]; exact hk.1 c x y z, fun j x y => by rw [V_pk h _ (Or.inr (by decide))]; exact hk.2 j x y⟩
theorem J_CV {m a z : cw_M} (h : V_p m a) (hC : J_C m z) : J_C a z := by
  obtain ⟨h1, h2, h3, h4, h5, h6⟩ := hC
  have e := h.1
  refine ⟨by rw [e _ (by decide) (by decide)]; exact h1, by rw [h.2 16 (by decide) (by decide), h.2 14 (by decide) (by decide), h.2 15 (by decide) (by decide), e x_reader_ (by decide) (by decide)]; exact h2, by rw [e x_reader_ (by decide) (by decide), e x_reader_bytes_ (by decide) (by decide)]; exact h3, by rw [h.2 17 (by decide) (by decide)]; exact h4, by rw [e x_log_ (by decide) (by decide), e x_log_what_ (by decide) (by decide), e x_log_where_ (by decide) (by decide), e x_log_was_ (by decide) (by decide)]; exact h5, j_He (V_h h) (e _ (by decide) (by decide)) (e _ (by decide) (by decide)) (e _ (by decide) (by decide)) h6⟩
theorem J_NV {n sc : Int} {S : Int → Int} {m a : cw_M} (hs : sc < 33554432) (h : V_p m a) (hN : J_N n sc S m) : J_N n sc S a := by
  unfold J_N at hN ⊢
  rw [V_pk h sc (Or.inl hs), V_pk h (-1) (Or.inl (by decide))]
  exact hN
/-- the reference's rows that matter are the same -/
theorem J_CU {a b z : cw_M} (h : U_s b z) (hC : J_C a b) : J_C a z := by
  obtain ⟨h1, h2, h3, h4, h5, h6⟩ := hC
  have e := h.1
  have f := h.2
  refine ⟨by rw [e m_refused_ (by decide) (by decide)]; exact h1, by rw [f 0 (by decide), f 6 (by decide), f 45 (by decide), f 14 (by decide)]; exact h2, by rw [f 13 (by decide), e m_tape_ (by decide) (by decide)]; exact h3, by rw [f 53 (by decide), e m_drawnMoved_ (by decide) (by decide)]; exact h4, by rw [f 44 (by decide), e m_left0_ (by decide) (by decide), e m_kept_ (by decide) (by decide)]; exact h5, by rw [e m_kept_ (by decide) (by decide), e m_hasImage_ (by decide) (by decide), e m_images_ (by decide) (by decide)]; exact h6⟩
theorem J_BU {n : Int} {b z : cw_M} (h : U_s b z) (hB : J_B n b) : J_B n z := by
  unfold J_B at hB ⊢
  rw [h.1 m_words_ (by decide) (by decide), h.1 m_refused_ (by decide) (by decide)]
  exact hB
/-- a question was asked of both -/
theorem J_q {n sc : Int} {S : Int → Int} {m a b : cw_M} (hn : n < 600) (hs : sc < 33554432) (hI : J_I n sc S m) (hV : V_p m a) (hZ : Z_c a (m m_kept_)) (hE : E_s a (m m_kept_)) (hb : la_ok b) (hU : U_s a b) : J_I (n + 1) sc S b := by
  obtain ⟨⟨h1, h2⟩, hA, hB, hC, hN⟩ := hI
  have hk : a m_kept_ = m m_kept_ := V_pk hV _ (Or.inr (by decide))
  have hm : (33554432 : Int) ≤ m_ := by decide
  have ek : b m_kept_ = m m_kept_ := by rw [hU.1 _ (by decide) (by decide), hk]
  have hCa : J_C a a := by
    have z := J_CV hV hC
    obtain ⟨z1, z2, z3, z4, z5, z6⟩ := z
    have k := fun c (q : m_ ≤ c) => V_pk hV c (Or.inr q)
    refine ⟨by rw [k m_refused_ (by decide)]; exact z1, by rw [k m_ (by decide)]; exact z2, by rw [k m_ (by decide), k m_tape_ (by decide)]; exact z3, by rw [k m_ (by decide), k m_drawnMoved_ (by decide)]; exact z4, by rw [k m_ (by decide), k m_left0_ (by decide), k m_kept_ (by decide)]; exact z5, by rw [k m_kept_ (by decide), k m_hasImage_ (by decide), k m_images_ (by decide)]; exact z6⟩
  have hBa : J_B n a := by
    unfold J_B at hB ⊢
    rw [V_pk hV m_words_ (Or.inr (by decide)), V_pk hV m_refused_ (Or.inr (by decide))]
    exact hB
  exact J_up (by omega) hb (F_mU hU) (hU.1 _ (by decide) (by decide)) (V_pl hV h2) (by rw [ek]; exact ⟨hA.1, W_rP hA.2.1 hV, hZ, hE⟩) (J_Bm (J_BU hU hBa)) (J_CU hU hCa) (J_Nm hn (J_NV hs hV hN))
