/-! Questions asked of both (wip/whole/tools/m150.py). -/
/-- a call of the class, then the same of the reference: the same answer, and all holds again -/
def J_P (n sc : Int) (S : Int → Int) (sh : Int → cw_V) (D kc km : Nat) (as : List cw_V) : Prop := ∀ m, J_I n sc S m → cw_C D kc (vr x_ :: as) m (fun r a => la_ok a ∧ a sc = S ∧ (∃ x, r = some (sh x)) ∧ cw_C D km (vr m_ :: as) a (fun r' b => r' = r ∧ J_I (n + 1) sc S b))
theorem k0_T {j : Int} (h0 : 0 ≤ j) (h1 : j < 7) : cw_k0 cw_TREES j = t_c j := by
  rcases (by omega : j = 0 ∨ j = 1 ∨ j = 2 ∨ j = 3 ∨ j = 4 ∨ j = 5 ∨ j = 6) with e | e | e | e | e | e | e <;> subst e <;> decide
theorem la_kT {m : cw_M} (h : la_k m) : ∀ j, 0 ≤ j → j < 7 → m cw_TREES j = t_c j := fun j a b => by
  rw [h.1 cw_TREES (by decide) (by decide) (by decide)]; exact k0_T a b
theorem la_kC {m : cw_M} (h : la_k m) : ∀ j, 0 ≤ j → j < 7 → m m_catalan_ j = t_c j := fun j a b => by
  rw [h.2 j a b]; exact k0_T a b
theorem la_kM {m : cw_M} (h : la_k m) : m cw_TERM 0 = 999 ∧ m cw_TERM 1 = 9999 ∧ m cw_TERM 2 = 9 ∧ m cw_TERM 3 = 10 := by
  rw [h.1 cw_TERM (by decide) (by decide) (by decide)]; decide
theorem J_s {n sc : Int} {S : Int → Int} {m : cw_M} (hI : J_I n sc S m) : m sc = S := hI.2.2.2.2.1
theorem J_rfb {n : Int} {b : cw_M} (hn : n < 600) (h : J_B n b) : r_fb b := fun k x y => by have := h.2 k x y; omega
theorem J_cfb {n : Int} {a b : cw_M} (hn : n < 600) (h : J_B n b) (hC : J_C a b) : c_fb a := fun i x y => by
  have r := hC.1
  have q := fun k x y => h.2 k x y
  have q1 := q 1 (by decide) (by decide)
  have q2 := q 2 (by decide) (by decide)
  have q3 := q 3 (by decide) (by decide)
  have q5 := q 5 (by decide) (by decide)
  have q6 := q 6 (by decide) (by decide)
  unfold j_R at r
  rcases (by omega : i = 0 ∨ i = 1 ∨ i = 2 ∨ i = 3 ∨ i = 4) with e | e | e | e | e <;> subst e <;> omega
/-- nothing was changed -/
theorem J_0 {n sc : Int} {S : Int → Int} {m : cw_M} (hn : n < 600) (hI : J_I n sc S m) : J_I (n + 1) sc S m := ⟨hI.1, hI.2.1, J_Bm hI.2.2.1, hI.2.2.2.1, J_Nm hn hI.2.2.2.2⟩
theorem J_of {n sc : Int} {S : Int → Int} (hn : n < 600) (hs : sc < 33554432) {p w : Int} : J_P n sc S vi 200 k_C_of k_M_of [vi p, vi w] := by
  intro m hI
  have hm := hI.1.1
  have hk := hI.1.2
  have hK := hI.2.1.1
  have hW := hI.2.1.2.1
  have hZ := hI.2.1.2.2.1
  have hE := hI.2.1.2.2.2
  have hB := hI.2.2.1
  have hC := hI.2.2.2.1
  have hr := J_rfb hn hB
  have hf := J_cfb hn hB hC
  refine C_of hm (la_kT hk) hK hW hZ (fun a ha hV hZa => ⟨ha, by rw [V_pk (V_sp hV) sc (Or.inl hs)]; exact J_s hI, ⟨_, rfl⟩, ?_⟩)
  have ek : a m_kept_ = m m_kept_ := V_pk (V_sp hV) _ (Or.inr (by decide))
  refine M_of ha (la_kC (V_pl (V_sp hV) hk)) (by rw [ek]; exact hK) (fun b hb hS => ?_)
  rw [ek]
  exact ⟨rfl, J_q hn hs hI (V_sp hV) hZa (E_sV hE hV) hb (U_sS hS)⟩
theorem J_depth {n sc : Int} {S : Int → Int} (hn : n < 600) (hs : sc < 33554432) {rd j : Int} : J_P n sc S vi 200 k_C_depth k_M_depth [vi rd, vi j] := by
  intro m hI
  have hm := hI.1.1
  have hk := hI.1.2
  have hK := hI.2.1.1
  have hW := hI.2.1.2.1
  have hZ := hI.2.1.2.2.1
  have hE := hI.2.1.2.2.2
  have hB := hI.2.2.1
  have hC := hI.2.2.2.1
  have hr := J_rfb hn hB
  have hf := J_cfb hn hB hC
  refine C_depth hm (la_kT hk) hK hW hZ (fun a ha hV hZa => ⟨ha, by rw [V_pk (V_sp hV) sc (Or.inl hs)]; exact J_s hI, ⟨_, rfl⟩, ?_⟩)
  have ek : a m_kept_ = m m_kept_ := V_pk (V_sp hV) _ (Or.inr (by decide))
  refine M_depth ha (la_kC (V_pl (V_sp hV) hk)) (by rw [ek]; exact hK) (fun b hb hS => ?_)
  rw [ek]
  exact ⟨rfl, J_q hn hs hI (V_sp hV) hZa (E_sV hE hV) hb (U_sS hS)⟩
theorem J_gets {n sc : Int} {S : Int → Int} (hn : n < 600) (hs : sc < 33554432) {rd p : Int} : J_P n sc S vi 200 k_C_gets k_M_gets [vi rd, vi p] := by
  intro m hI
  have hm := hI.1.1
  have hk := hI.1.2
  have hK := hI.2.1.1
  have hW := hI.2.1.2.1
  have hZ := hI.2.1.2.2.1
  have hE := hI.2.1.2.2.2
  have hB := hI.2.2.1
  have hC := hI.2.2.2.1
  have hr := J_rfb hn hB
  have hf := J_cfb hn hB hC
  refine C_gets hm (la_kT hk) hK hW hZ (fun a ha hV hZa => ⟨ha, by rw [V_pk (V_sp hV) sc (Or.inl hs)]; exact J_s hI, ⟨_, rfl⟩, ?_⟩)
  have ek : a m_kept_ = m m_kept_ := V_pk (V_sp hV) _ (Or.inr (by decide))
  refine M_gets ha (la_kC (V_pl (V_sp hV) hk)) (by rw [ek]; exact hK) (fun b hb hS => ?_)
  rw [ek]
  exact ⟨rfl, J_q hn hs hI (V_sp hV) hZa (E_sV hE hV) hb (U_sS hS)⟩
theorem J_lost {n sc : Int} {S : Int → Int} (hn : n < 600) (hs : sc < 33554432) {rd : Int} : J_P n sc S vi 200 k_C_lost k_M_lost [vi rd] := by
  intro m hI
  have hm := hI.1.1
  have hk := hI.1.2
  have hK := hI.2.1.1
  have hW := hI.2.1.2.1
  have hZ := hI.2.1.2.2.1
  have hE := hI.2.1.2.2.2
  have hB := hI.2.2.1
  have hC := hI.2.2.2.1
  have hr := J_rfb hn hB
  have hf := J_cfb hn hB hC
  refine C_lost hm (la_kT hk) hK hW hZ (fun a ha hV hZa => ⟨ha, by rw [V_pk (V_sp hV) sc (Or.inl hs)]; exact J_s hI, ⟨_, rfl⟩, ?_⟩)
  have ek : a m_kept_ = m m_kept_ := V_pk (V_sp hV) _ (Or.inr (by decide))
  refine M_lost ha (la_kC (V_pl (V_sp hV) hk)) (by rw [ek]; exact hK) (fun b hb hS => ?_)
  rw [ek]
  exact ⟨rfl, J_q hn hs hI (V_sp hV) hZa (E_sV hE hV) hb (U_sS hS)⟩
theorem J_range {n sc : Int} {S : Int → Int} (hn : n < 600) (hs : sc < 33554432) {p w : Int} : J_P n sc S vi 200 k_C_range k_M_range [vi p, vi w] := by
  intro m hI
  have hm := hI.1.1
  have hk := hI.1.2
  have hK := hI.2.1.1
  have hW := hI.2.1.2.1
  have hZ := hI.2.1.2.2.1
  have hE := hI.2.1.2.2.2
  have hB := hI.2.2.1
  have hC := hI.2.2.2.1
  have hr := J_rfb hn hB
  have hf := J_cfb hn hB hC
  refine C_range hm (la_kT hk) hK hW hZ (fun a ha hV hZa => ⟨ha, by rw [V_pk (V_sp hV) sc (Or.inl hs)]; exact J_s hI, ⟨_, rfl⟩, ?_⟩)
  have ek : a m_kept_ = m m_kept_ := V_pk (V_sp hV) _ (Or.inr (by decide))
  refine M_range ha (la_kC (V_pl (V_sp hV) hk)) (by rw [ek]; exact hK) (fun b hb hS => ?_)
  rw [ek]
  exact ⟨rfl, J_q hn hs hI (V_sp hV) hZa (E_sV hE hV) hb (U_sS hS)⟩
theorem J_unlike {n sc : Int} {S : Int → Int} (hn : n < 600) (hs : sc < 33554432) : J_P n sc S vi 200 k_C_unlike k_M_unlike [] := by
  intro m hI
  have hm := hI.1.1
  have hk := hI.1.2
  have hK := hI.2.1.1
  have hW := hI.2.1.2.1
  have hZ := hI.2.1.2.2.1
  have hE := hI.2.1.2.2.2
  have hB := hI.2.2.1
  have hC := hI.2.2.2.1
  have hr := J_rfb hn hB
  have hf := J_cfb hn hB hC
  refine C_unlike hm (la_kT hk) hK hW hZ (fun a ha hV hZa => ⟨ha, by rw [V_pk (V_sp hV) sc (Or.inl hs)]; exact J_s hI, ⟨_, rfl⟩, ?_⟩)
  have ek : a m_kept_ = m m_kept_ := V_pk (V_sp hV) _ (Or.inr (by decide))
  refine M_unlike ha (la_kC (V_pl (V_sp hV) hk)) (by rw [ek]; exact hK) (fun b hb hS => ?_)
  rw [ek]
  exact ⟨rfl, J_q hn hs hI (V_sp hV) hZa (E_sV hE hV) hb (U_sS hS)⟩
theorem J_fits {n sc : Int} {S : Int → Int} (hn : n < 600) (hs : sc < 33554432) {i : Int} : J_P n sc S vi 200 k_C_fits k_M_fits [vi i] := by
  intro m hI
  have hm := hI.1.1
  have hk := hI.1.2
  have hK := hI.2.1.1
  have hW := hI.2.1.2.1
  have hZ := hI.2.1.2.2.1
  have hE := hI.2.1.2.2.2
  have hB := hI.2.2.1
  have hC := hI.2.2.2.1
  have hr := J_rfb hn hB
  have hf := J_cfb hn hB hC
  refine C_fits hm (la_kT hk) hK hW hZ (fun a ha hV hZa => ⟨ha, by rw [V_pk (V_sp hV) sc (Or.inl hs)]; exact J_s hI, ⟨_, rfl⟩, ?_⟩)
  have ek : a m_kept_ = m m_kept_ := V_pk (V_sp hV) _ (Or.inr (by decide))
  refine M_fits ha (la_kC (V_pl (V_sp hV) hk)) (by rw [ek]; exact hK) (fun b hb hS => ?_)
  rw [ek]
  exact ⟨rfl, J_q hn hs hI (V_sp hV) hZa (E_sV hE hV) hb (U_sS hS)⟩
theorem J_fair {n sc : Int} {S : Int → Int} (hn : n < 600) (hs : sc < 33554432) {w : Int} : J_P n sc S vi 200 k_C_fair k_M_fair [vi w] := by
  intro m hI
  have hm := hI.1.1
  have hk := hI.1.2
  have hK := hI.2.1.1
  have hW := hI.2.1.2.1
  have hZ := hI.2.1.2.2.1
  have hE := hI.2.1.2.2.2
  have hB := hI.2.2.1
  have hC := hI.2.2.2.1
  have hr := J_rfb hn hB
  have hf := J_cfb hn hB hC
  refine C_fair hm (la_kT hk) hK hW hZ (fun a ha hV hZa => ⟨ha, by rw [V_pk (V_sp hV) sc (Or.inl hs)]; exact J_s hI, ⟨_, rfl⟩, ?_⟩)
  have ek : a m_kept_ = m m_kept_ := V_pk (V_sp hV) _ (Or.inr (by decide))
  refine M_fair ha (la_kC (V_pl (V_sp hV) hk)) (by rw [ek]; exact hK) (fun b hb hS => ?_)
  rw [ek]
  exact ⟨rfl, J_q hn hs hI (V_sp hV) hZa (E_sV hE hV) hb (U_sS hS)⟩
theorem J_ask {n sc : Int} {S : Int → Int} (hn : n < 600) (hs : sc < 33554432) {w : Int} : J_P n sc S vi 200 k_C_ask k_M_ask [vi w] := by
  intro m hI
  have hm := hI.1.1
  have hk := hI.1.2
  have hK := hI.2.1.1
  have hW := hI.2.1.2.1
  have hZ := hI.2.1.2.2.1
  have hE := hI.2.1.2.2.2
  have hB := hI.2.2.1
  have hC := hI.2.2.2.1
  have hr := J_rfb hn hB
  have hf := J_cfb hn hB hC
  refine C_ask hm (la_kT hk) hK hW hZ (fun a ha hV hZa => ⟨ha, by rw [V_pk (V_sp hV) sc (Or.inl hs)]; exact J_s hI, ⟨_, rfl⟩, ?_⟩)
  have ek : a m_kept_ = m m_kept_ := V_pk (V_sp hV) _ (Or.inr (by decide))
  refine M_ask ha (la_kC (V_pl (V_sp hV) hk)) (by rw [ek]; exact hK) (fun b hb hS => ?_)
  rw [ek]
  exact ⟨rfl, J_q hn hs hI (V_sp hV) hZa (E_sV hE hV) hb (U_sS hS)⟩
theorem J_ruled {n sc : Int} {S : Int → Int} (hn : n < 600) (hs : sc < 33554432) {p : Int} : J_P n sc S vi 200 k_C_ruled k_M_ruled [vi p] := by
  intro m hI
  have hm := hI.1.1
  have hk := hI.1.2
  have hK := hI.2.1.1
  have hW := hI.2.1.2.1
  have hZ := hI.2.1.2.2.1
  have hE := hI.2.1.2.2.2
  have hB := hI.2.2.1
  have hC := hI.2.2.2.1
  have hr := J_rfb hn hB
  have hf := J_cfb hn hB hC
  refine C_ruled hm (la_kT hk) hK hW hZ (fun a ha hV hZa => ⟨ha, by rw [V_pk (V_sp hV) sc (Or.inl hs)]; exact J_s hI, ⟨_, rfl⟩, ?_⟩)
  have ek : a m_kept_ = m m_kept_ := V_pk (V_sp hV) _ (Or.inr (by decide))
  refine M_ruled ha (la_kC (V_pl (V_sp hV) hk)) (by rw [ek]; exact hK) (fun b hb hS => ?_)
  rw [ek]
  exact ⟨rfl, J_q hn hs hI (V_sp hV) hZa (E_sV hE hV) hb (U_sS hS)⟩
theorem J_compare {n sc : Int} {S : Int → Int} (hn : n < 600) (hs : sc < 33554432) {fc rd p : Int} : J_P n sc S vi 200 k_C_compare k_M_compare [vi fc, vi rd, vi p] := by
  intro m hI
  have hm := hI.1.1
  have hk := hI.1.2
  have hK := hI.2.1.1
  have hW := hI.2.1.2.1
  have hZ := hI.2.1.2.2.1
  have hE := hI.2.1.2.2.2
  have hB := hI.2.2.1
  have hC := hI.2.2.2.1
  have hr := J_rfb hn hB
  have hf := J_cfb hn hB hC
  refine C_compare hm (la_kT hk) hK hW hZ (fun a ha hV hZa => ⟨ha, by rw [V_pk (V_sp hV) sc (Or.inl hs)]; exact J_s hI, ⟨_, rfl⟩, ?_⟩)
  have ek : a m_kept_ = m m_kept_ := V_pk (V_sp hV) _ (Or.inr (by decide))
  refine M_compare ha (la_kC (V_pl (V_sp hV) hk)) (by rw [ek]; exact hK) (fun b hb hS => ?_)
  rw [ek]
  exact ⟨rfl, J_q hn hs hI (V_sp hV) hZa (E_sV hE hV) hb (U_sS hS)⟩
theorem J_few {n sc : Int} {S : Int → Int} (hn : n < 600) (hs : sc < 33554432) {k l : Int} : J_P n sc S vl 200 k_C_few k_M_few [vi k, vi l] := by
  intro m hI
  have hm := hI.1.1
  have hk := hI.1.2
  have hK := hI.2.1.1
  have hW := hI.2.1.2.1
  have hZ := hI.2.1.2.2.1
  have hE := hI.2.1.2.2.2
  have hB := hI.2.2.1
  have hC := hI.2.2.2.1
  have hr := J_rfb hn hB
  have hf := J_cfb hn hB hC
  refine C_few hm hK hW hZ (fun a ha hV hZa => ⟨ha, by rw [V_pk (V_sp hV) sc (Or.inl hs)]; exact J_s hI, ⟨_, rfl⟩, ?_⟩)
  have ek : a m_kept_ = m m_kept_ := V_pk (V_sp hV) _ (Or.inr (by decide))
  refine M_few ha (by rw [ek]; exact hK) (fun b hb hS => ?_)
  rw [ek]
  exact ⟨rfl, J_q hn hs hI (V_sp hV) hZa (E_sV hE hV) hb (U_sS hS)⟩
theorem J_readings {n sc : Int} {S : Int → Int} (hn : n < 600) (hs : sc < 33554432) : J_P n sc S vi 200 k_C_readings k_M_readings [] := by
  intro m hI
  have hm := hI.1.1
  have hk := hI.1.2
  have hK := hI.2.1.1
  have hW := hI.2.1.2.1
  have hZ := hI.2.1.2.2.1
  have hE := hI.2.1.2.2.2
  have hB := hI.2.2.1
  have hC := hI.2.2.2.1
  have hr := J_rfb hn hB
  have hf := J_cfb hn hB hC
  refine C_readings hm (la_kT hk) hK hW hZ (fun a ha hV hZa => ⟨ha, by rw [V_pk (V_sp hV) sc (Or.inl hs)]; exact J_s hI, ⟨_, rfl⟩, ?_⟩)
  have ek : a m_kept_ = m m_kept_ := V_pk (V_sp hV) _ (Or.inr (by decide))
  refine M_readingsS ha (la_kC (V_pl (V_sp hV) hk)) (by rw [ek]; exact hK.1) (fun b hb hS => ?_)
  rw [ek]
  exact ⟨rfl, J_q hn hs hI (V_sp hV) hZa (E_sV hE hV) hb (U_sS hS)⟩
theorem J_settle {n sc : Int} {S : Int → Int} (hn : n < 600) (hs : sc < 33554432) {rd w : Int} : J_P n sc S vi 200 k_C_settle k_M_settle [vi rd, vi w] := by
  intro m hI
  have hm := hI.1.1
  have hk := hI.1.2
  have hK := hI.2.1.1
  have hW := hI.2.1.2.1
  have hZ := hI.2.1.2.2.1
  have hE := hI.2.1.2.2.2
  have hB := hI.2.2.1
  have hC := hI.2.2.2.1
  have hr := J_rfb hn hB
  have hf := J_cfb hn hB hC
  refine C_settle hm (la_kT hk) hK hW hZ hE (fun r a hr1 ha hV hZa hEa => ⟨ha, by rw [V_pk hV sc (Or.inl hs)]; exact J_s hI, ⟨_, rfl⟩, ?_⟩)
  have ek : a m_kept_ = m m_kept_ := V_pk hV _ (Or.inr (by decide))
  refine M_settle ha (la_kC (V_pl hV hk)) (by rw [ek]; exact hK) (fun r2 b hb hS hr2 => ?_)
  rw [ek] at hr2
  rw [s_Ru hK hr2 hr1]
  exact ⟨rfl, J_q hn hs hI hV hZa hEa hb (U_sS hS)⟩
theorem J_who {n sc : Int} {S : Int → Int} (hn : n < 600) (hs : sc < 33554432) {x : Int} : J_P n sc S vi 200 k_C_who k_M_who [vi x] := by
  intro m hI
  have hm := hI.1.1
  have hk := hI.1.2
  have hK := hI.2.1.1
  have hW := hI.2.1.2.1
  have hZ := hI.2.1.2.2.1
  have hE := hI.2.1.2.2.2
  have hB := hI.2.2.1
  have hC := hI.2.2.2.1
  have hr := J_rfb hn hB
  have hf := J_cfb hn hB hC
  refine C_who hm hK hW ⟨hm, J_s hI, ⟨_, rfl⟩, ?_⟩
  refine M_who hm hK.1 (fun a b => ?_) (fun a => ?_)
  · unfold q_who; rw [if_pos ⟨a, b⟩]; exact ⟨rfl, J_0 hn hI⟩
  · unfold q_who; rw [if_neg a]; exact ⟨rfl, J_0 hn hI⟩
theorem J_join {n sc : Int} {S : Int → Int} (hn : n < 600) (hs : sc < 33554432) {j w : Int} : J_P n sc S vi 200 k_C_join k_M_join [vi j, vi w] := by
  intro m hI
  have hm := hI.1.1
  have hk := hI.1.2
  have hK := hI.2.1.1
  have hW := hI.2.1.2.1
  have hZ := hI.2.1.2.2.1
  have hE := hI.2.1.2.2.2
  have hB := hI.2.2.1
  have hC := hI.2.2.2.1
  have hr := J_rfb hn hB
  have hf := J_cfb hn hB hC
  refine C_join hm hK hW ⟨hm, J_s hI, ⟨_, rfl⟩, ?_⟩
  refine M_join hm hK.1 (fun a b c => ?_) (fun a b c => ?_) (fun a => ?_)
  · unfold q_jn; rw [if_pos ⟨a, b⟩, if_pos c]; exact ⟨rfl, J_0 hn hI⟩
  · unfold q_jn; rw [if_pos ⟨a, b⟩, if_neg (by omega), if_pos c, Int.zero_add]; exact ⟨rfl, J_0 hn hI⟩
  · have e : q_jn (m m_kept_) j w = -1 := by unfold q_jn; (repeat' split) <;> first | rfl | (exfalso; omega)
    rw [e]; exact ⟨rfl, J_0 hn hI⟩
theorem J_status {n sc : Int} {S : Int → Int} (hn : n < 600) (hs : sc < 33554432) : J_P n sc S vi 200 k_C_status k_M_status [] := by
  intro m hI
  have hm := hI.1.1
  have hk := hI.1.2
  have hK := hI.2.1.1
  have hW := hI.2.1.2.1
  have hZ := hI.2.1.2.2.1
  have hE := hI.2.1.2.2.2
  have hB := hI.2.2.1
  have hC := hI.2.2.2.1
  have hr := J_rfb hn hB
  have hf := J_cfb hn hB hC
  refine C_status hm ⟨hm, J_s hI, ⟨_, rfl⟩, ?_⟩
  refine M_status hm ?_
  rw [hC.2.1.1]
  exact ⟨rfl, J_0 hn hI⟩
theorem J_blots {n sc : Int} {S : Int → Int} (hn : n < 600) (hs : sc < 33554432) : J_P n sc S vi 200 k_C_blots k_M_blots [] := by
  intro m hI
  have hm := hI.1.1
  have hk := hI.1.2
  have hK := hI.2.1.1
  have hW := hI.2.1.2.1
  have hZ := hI.2.1.2.2.1
  have hE := hI.2.1.2.2.2
  have hB := hI.2.2.1
  have hC := hI.2.2.2.1
  have hr := J_rfb hn hB
  have hf := J_cfb hn hB hC
  refine C_blots hm ⟨hm, J_s hI, ⟨_, rfl⟩, ?_⟩
  refine M_blots hm ?_
  rw [hC.2.1.2.1]
  exact ⟨rfl, J_0 hn hI⟩
theorem J_stopped {n sc : Int} {S : Int → Int} (hn : n < 600) (hs : sc < 33554432) : J_P n sc S vi 200 k_C_stopped k_M_stopped [] := by
  intro m hI
  have hm := hI.1.1
  have hk := hI.1.2
  have hK := hI.2.1.1
  have hW := hI.2.1.2.1
  have hZ := hI.2.1.2.2.1
  have hE := hI.2.1.2.2.2
  have hB := hI.2.2.1
  have hC := hI.2.2.2.1
  have hr := J_rfb hn hB
  have hf := J_cfb hn hB hC
  refine C_stopped hm ⟨hm, J_s hI, ⟨_, rfl⟩, ?_⟩
  refine M_stopped hm ?_
  rw [hC.2.1.2.2.1]
  exact ⟨rfl, J_0 hn hI⟩
theorem J_fault {n sc : Int} {S : Int → Int} (hn : n < 600) (hs : sc < 33554432) : J_P n sc S vi 200 k_C_fault k_M_fault [] := by
  intro m hI
  have hm := hI.1.1
  have hk := hI.1.2
  have hK := hI.2.1.1
  have hW := hI.2.1.2.1
  have hZ := hI.2.1.2.2.1
  have hE := hI.2.1.2.2.2
  have hB := hI.2.2.1
  have hC := hI.2.2.2.1
  have hr := J_rfb hn hB
  have hf := J_cfb hn hB hC
  refine C_fault hm ⟨hm, J_s hI, ⟨_, rfl⟩, ?_⟩
  refine M_fault hm ?_
  rw [hC.2.1.2.2.2]
  exact ⟨rfl, J_0 hn hI⟩
theorem J_drawn {n sc : Int} {S : Int → Int} (hn : n < 600) (hs : sc < 33554432) {p : Int} : J_P n sc S vi 200 k_C_drawn k_M_drawn [vi p] := by
  intro m hI
  have hm := hI.1.1
  have hk := hI.1.2
  have hK := hI.2.1.1
  have hW := hI.2.1.2.1
  have hZ := hI.2.1.2.2.1
  have hE := hI.2.1.2.2.2
  have hB := hI.2.2.1
  have hC := hI.2.2.2.1
  have hr := J_rfb hn hB
  have hf := J_cfb hn hB hC
  have hD := hC.2.2.2.1
  refine C_drawn hm (fun q => ⟨hm, J_s hI, ⟨_, rfl⟩, ?_⟩) (fun q => ⟨hm, J_s hI, ⟨_, rfl⟩, ?_⟩)
  · refine M_drawn hm ?_
    have hD2 := hD.resolve_left (fun z => q.1 z.1)
    unfold q_drw
    rw [if_pos ⟨hD2.1, q.2.1, by omega⟩, hD2.2.2 p q.2.1 q.2.2]
    exact ⟨rfl, J_0 hn hI⟩
  · refine M_drawn hm ?_
    have e : q_drw m p = -1 := by
      unfold q_drw
      rw [if_neg (fun z => q ⟨fun y => ?_, z.2.1, by omega⟩)]
      rcases hD with hD | hD
      · exact z.1 hD.2
      · have := hD.2.1; omega
    rw [e]
    exact ⟨rfl, J_0 hn hI⟩
theorem J_count {n sc : Int} {S : Int → Int} (hn : n < 600) (hs : sc < 33554432) {w : Int} : J_P n sc S vi 200 k_C_count k_M_count [vi w] := by
  intro m hI
  have hm := hI.1.1
  have hk := hI.1.2
  have hK := hI.2.1.1
  have hW := hI.2.1.2.1
  have hZ := hI.2.1.2.2.1
  have hE := hI.2.1.2.2.2
  have hB := hI.2.2.1
  have hC := hI.2.2.2.1
  have hr := J_rfb hn hB
  have hf := J_cfb hn hB hC
  have r := hC.1
  unfold j_R at r
  have t := hW.2.2.2.2.2.1
  have l := hW.2.2.2.2.1
  refine C_count hm l.1 ⟨hm, J_s hI, ⟨_, rfl⟩, ?_⟩
  refine M_count hm hK.2.2.2.1 ?_
  refine ⟨?_, J_0 hn hI⟩
  congr 2
  unfold q_cnt
  by_cases h0 : w = 0
  · rw [if_pos h0, if_pos h0]; exact hW.1.symm
  rw [if_neg h0, if_neg h0]
  by_cases h1 : w = 1
  · rw [if_pos h1, if_pos h1]
    unfold b_c
    have b := l.2
    rw [b 0 (by decide) (by decide), b 1 (by decide) (by decide), b 2 (by decide) (by decide), b 3 (by decide) (by decide), b 4 (by decide) (by decide), b 5 (by decide) (by decide)]
    rfl
  rw [if_neg h1, if_neg h1]
  by_cases h2 : w = 2
  · rw [if_pos h2, if_pos h2]; exact hW.2.2.2.2.2.2.2.2.1.symm
  rw [if_neg h2, if_neg h2]
  by_cases h3 : w = 3
  · rw [if_pos h3, if_pos h3]; exact hW.2.2.2.2.2.2.1.symm
  rw [if_neg h3, if_neg h3]
  by_cases h4 : w = 4
  · rw [if_pos h4, if_pos h4]; exact hW.2.2.2.2.2.2.2.2.2.2.1.symm
  rw [if_neg h4, if_neg h4]
  by_cases h5 : w = 5
  · rw [if_pos h5, if_pos h5]; exact hC.2.2.2.2.1.1.1.symm
  rw [if_neg h5, if_neg h5]
  by_cases h6 : w = 6
  · rw [if_pos h6, if_pos h6]; exact hC.2.2.1.1.symm
  rw [if_neg h6, if_neg h6]
  by_cases h12 : w = 12
  · rw [if_pos h12, if_neg (by omega), if_neg (by omega), if_neg (by omega), if_neg (by omega), if_neg (by omega), if_pos h12]; exact hW.2.2.2.2.2.2.2.2.2.2.2.1.symm
  rw [if_neg h12]
  by_cases hr5 : 7 ≤ w ∧ w ≤ 11
  · rw [if_pos hr5]
    rcases (by omega : w = 7 ∨ w = 8 ∨ w = 9 ∨ w = 10 ∨ w = 11) with e | e | e | e | e <;> subst e
    · exact r.1.symm
    · exact r.2.1.symm
    · exact r.2.2.1.symm
    · exact r.2.2.2.1.symm
    · exact r.2.2.2.2.symm
  rw [if_neg hr5, if_neg (by omega), if_neg (by omega), if_neg (by omega), if_neg (by omega), if_neg (by omega), if_neg h12]
  by_cases ht : 13 ≤ w ∧ w ≤ 16
  · rw [if_pos ht]
    rcases (by omega : w = 13 ∨ w = 14 ∨ w = 15 ∨ w = 16) with e | e | e | e <;> subst e
    · exact t.1.symm
    · exact t.2.1.symm
    · exact t.2.2.1.symm
    · exact t.2.2.2.symm
  rw [if_neg ht, if_neg (by omega), if_neg (by omega), if_neg (by omega), if_neg (by omega)]
