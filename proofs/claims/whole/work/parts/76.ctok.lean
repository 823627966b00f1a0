/-! The class reads: one token, one step of code (wip/whole/tools/m76.py). -/
def k_E (b : Int → Int) (n : Int) (i : Int) : Int := k_en b n (k_P b n i)
abbrev x_P (m : cw_M) (i : Int) : Int := k_P (m x_reader_bytes_) (m x_reader_ 1) i
abbrev x_E (m : cw_M) (i : Int) : Int := k_E (m x_reader_bytes_) (m x_reader_ 1) i
abbrev x_c (m : cw_M) : Int → Int := k_C (m x_reader_bytes_) (m x_reader_ 1)
abbrev x_v (m : cw_M) : Int → Int := k_V (m x_reader_bytes_) (m x_reader_ 1)
def X_h (m : cw_M) (tk : Int) : Prop := la_k m ∧ (0 ≤ m x_reader_ 1 ∧ m x_reader_ 1 ≤ 400) ∧ (∀ i, 0 ≤ i → i < m x_reader_ 1 → 0 ≤ m x_reader_bytes_ i ∧ m x_reader_bytes_ i ≤ 255) ∧ K_n (m x_reader_bytes_) (m x_reader_ 1) tk
theorem e_emit : ∀ (a : Fin 1024) (p : Fin 16), cw_ior (cw_ishl a.val 4) p.val = 16 * (a.val : Int) + p.val := by decide +kernel
theorem e_emi {a p : Int} (ha : 0 ≤ a ∧ a ≤ 1000) (hp : 0 ≤ p ∧ p < 16) : cw_ior (cw_ishl a 4) p = 16 * a + p := by
  have := e_emit ⟨a.toNat, by omega⟩ ⟨p.toNat, by omega⟩
  have e1 : (((⟨a.toNat, by omega⟩ : Fin 1024).val : Nat) : Int) = a := by show ((a.toNat : Nat) : Int) = a; omega
  have e2 : (((⟨p.toNat, by omega⟩ : Fin 16).val : Nat) : Int) = p := by show ((p.toNat : Nat) : Int) = p; omega
  rw [e1, e2] at this
  exact this
theorem e_a15 : ∀ (a b : Fin 128), cw_iand (128 * a.val + b.val) 15 = (128 * (a.val : Int) + b.val) % 16 ∧ cw_ishr (128 * a.val + b.val) 4 = (128 * (a.val : Int) + b.val) / 16 := by decide +kernel
theorem e_15 {x : Int} (h : 0 ≤ x ∧ x < 16384) : cw_iand x 15 = x % 16 ∧ cw_ishr x 4 = x / 16 := by
  have := e_a15 ⟨(x / 128).toNat, by omega⟩ ⟨(x % 128).toNat, by omega⟩
  have e1 : (((⟨(x / 128).toNat, by omega⟩ : Fin 128).val : Nat) : Int) = x / 128 := by show (((x / 128).toNat : Nat) : Int) = x / 128; omega
  have e2 : (((⟨(x % 128).toNat, by omega⟩ : Fin 128).val : Nat) : Int) = x % 128 := by show (((x % 128).toNat : Nat) : Int) = x % 128; omega
  rw [e1, e2, show 128 * (x / 128) + x % 128 = x by omega] at this
  exact this
theorem Rt_advance {d : Nat} {m : cw_M} {Q : Option cw_V → cw_M → Prop} (hm0 : la_ok m) {tk : Int} (hX : X_h m tk) {co hd fi se te re : Int → Int} {fa pa op cl sz : Int} {i : Int} (h0 : 0 ≤ i) (hQ : Q none (q_m m co hd fi se te re fa (x_P m (i + 1)) (x_E m (i + 1)) pa op cl sz)) : cw_C d k_Re_advance [vr x_reader_] (q_m m co hd fi se te re fa (x_P m i) (x_E m i) pa op cl sz) Q := by
  have e : (i + 1).toNat = i.toNat + 1 := by omega
  refine Re_advance hm0 hX.2.1 hX.2.2.1 (i := i.toNat) rfl ?_
  unfold x_P x_E k_E k_P at hQ
  rw [e] at hQ
  exact hQ
theorem Rt_isSign {d : Nat} {m : cw_M} {Q : Option cw_V → cw_M → Prop} (hm0 : la_ok m) {tk : Int} (hX : X_h m tk) {co hd fi se te re : Int → Int} {fa pa op cl sz : Int} {i ch r : Int} (g1 : k_sm ch = false) (g2 : k_dg ch = false) (g0 : 0 ≤ ch) (hr : 100 + ch = r) (h1 : x_c m i = r → Q (some (vi 1)) (q_m m co hd fi se te re fa (x_P m i) (x_E m i) pa op cl sz)) (h0 : x_c m i ≠ r → Q (some (vi 0)) (q_m m co hd fi se te re fa (x_P m i) (x_E m i) pa op cl sz)) : cw_C d k_Re_isSign [vr x_reader_, vi ch] (q_m m co hd fi se te re fa (x_P m i) (x_E m i) pa op cl sz) Q := by
  subst hr
  exact Re_isSign hm0 hX.2.1 hX.2.2.1 (st := 0) (sp := 0) (i := i.toNat) g1 g2 g0 h1 h0
theorem Rt_number {d : Nat} {m : cw_M} {Q : Option cw_V → cw_M → Prop} (hm0 : la_ok m) {tk : Int} (hX : X_h m tk) {co hd fi se te re : Int → Int} {fa pa op cl sz : Int} {i : Int} (h1 : x_c m i = 50 → 0 ≤ x_v m i → Q (some (vi (min 10000 (x_v m i)))) (q_m m co hd fi se te re fa (x_P m i) (x_E m i) pa op cl sz)) (h0 : x_c m i ≠ 50 → Q (some (vi (-1))) (q_m m co hd fi se te re fa (x_P m i) (x_E m i) pa op cl sz)) : cw_C (d + 1) k_Re_number [vr x_reader_] (q_m m co hd fi se te re fa (x_P m i) (x_E m i) pa op cl sz) Q :=
  Re_number hm0 hX.2.1 hX.2.2.1 (st := 0) (sp := 0) (i := i.toNat) (fun q => h1 q k_Vn) h0
theorem x_wk {m : cw_M} {tk : Int} (hX : X_h m tk) {i : Int} (j : Nat) {x : List Int} (hj : k_WL[j]? = some x) : (k_is (m x_reader_bytes_) (k_pl (m x_reader_bytes_) (m x_reader_ 1) i.toNat) (k_en (m x_reader_bytes_) (m x_reader_ 1) (k_pl (m x_reader_bytes_) (m x_reader_ 1) i.toNat)) x = true) ↔ (x_c m i = 1 + j) :=
  k_word (fun i a b => (hX.2.2.1 i a b).1) (k_plr hX.2.1.1 _).1 hj
theorem k_wi1 {b : Int → Int} {s e : Int} {x : List Int} {t : List (List Int)} {w : Int} : k_wi b s e (x :: t) w = if k_is b s e x = true then w else k_wi b s e t (w + 1) := rfl
theorem k_str0 : k_str (cw_k0 15728875) 3 0 [[97, 110, 100]] := by
  simp only [k_str]
  exact ⟨by decide +kernel, by decide +kernel, by decide +kernel, by decide +kernel⟩
theorem Rt_word0 {d : Nat} {m : cw_M} {Q : Option cw_V → cw_M → Prop} (hm0 : la_ok m) {tk : Int} (hX : X_h m tk) {co hd fi se te re : Int → Int} {fa pa op cl sz : Int} {i : Int} (h0 : x_c m i = 6 → Q (some (vi 0)) (q_m m co hd fi se te re fa (x_P m i) (x_E m i) pa op cl sz)) (hn : ¬ (x_c m i = 6) → Q (some (vi (-1))) (q_m m co hd fi se te re fa (x_P m i) (x_E m i) pa op cl sz)) : cw_C (d + 4) k_Re_wordIn [vr x_reader_, vr 4194316] (q_m m co hd fi se te re fa (x_P m i) (x_E m i) pa op cl sz) Q := by
  refine Re_wordIn0 hm0 hX.2.1 hX.2.2.1 (by rw [hX.1.1 4194316 (by decide) (by decide) (by decide)]; decide +kernel) (by rw [hX.1.1 4194316 (by decide) (by decide) (by decide)]; decide +kernel) (by rw [hX.1.1 15728875 (by decide) (by decide) (by decide)]; exact k_str0) (st := 0) (sp := 0) (i := i.toNat) ?_
  rw [k_wi1]
  by_cases q0 : x_c m i = 1 + (5 : Nat)
  · rw [if_pos ((x_wk hX 5 rfl).mpr q0)]
    exact h0 (by omega)
  rw [if_neg (fun z => q0 ((x_wk hX 5 rfl).mp z))]
  exact hn (by omega)
theorem k_str1 : k_str (cw_k0 16777387) 2 0 [[111, 114]] := by
  simp only [k_str]
  exact ⟨by decide +kernel, by decide +kernel, by decide +kernel, by decide +kernel⟩
theorem Rt_word1 {d : Nat} {m : cw_M} {Q : Option cw_V → cw_M → Prop} (hm0 : la_ok m) {tk : Int} (hX : X_h m tk) {co hd fi se te re : Int → Int} {fa pa op cl sz : Int} {i : Int} (h0 : x_c m i = 5 → Q (some (vi 0)) (q_m m co hd fi se te re fa (x_P m i) (x_E m i) pa op cl sz)) (hn : ¬ (x_c m i = 5) → Q (some (vi (-1))) (q_m m co hd fi se te re fa (x_P m i) (x_E m i) pa op cl sz)) : cw_C (d + 4) k_Re_wordIn [vr x_reader_, vr 5242892] (q_m m co hd fi se te re fa (x_P m i) (x_E m i) pa op cl sz) Q := by
  refine Re_wordIn1 hm0 hX.2.1 hX.2.2.1 (by rw [hX.1.1 5242892 (by decide) (by decide) (by decide)]; decide +kernel) (by rw [hX.1.1 5242892 (by decide) (by decide) (by decide)]; decide +kernel) (by rw [hX.1.1 16777387 (by decide) (by decide) (by decide)]; exact k_str1) (st := 0) (sp := 0) (i := i.toNat) ?_
  rw [k_wi1]
  by_cases q0 : x_c m i = 1 + (4 : Nat)
  · rw [if_pos ((x_wk hX 4 rfl).mpr q0)]
    exact h0 (by omega)
  rw [if_neg (fun z => q0 ((x_wk hX 4 rfl).mp z))]
  exact hn (by omega)
theorem k_str2 : k_str (cw_k0 17825963) 2 0 [[105, 102]] := by
  simp only [k_str]
  exact ⟨by decide +kernel, by decide +kernel, by decide +kernel, by decide +kernel⟩
theorem Rt_word2 {d : Nat} {m : cw_M} {Q : Option cw_V → cw_M → Prop} (hm0 : la_ok m) {tk : Int} (hX : X_h m tk) {co hd fi se te re : Int → Int} {fa pa op cl sz : Int} {i : Int} (h0 : x_c m i = 4 → Q (some (vi 0)) (q_m m co hd fi se te re fa (x_P m i) (x_E m i) pa op cl sz)) (hn : ¬ (x_c m i = 4) → Q (some (vi (-1))) (q_m m co hd fi se te re fa (x_P m i) (x_E m i) pa op cl sz)) : cw_C (d + 4) k_Re_wordIn [vr x_reader_, vr 6291468] (q_m m co hd fi se te re fa (x_P m i) (x_E m i) pa op cl sz) Q := by
  refine Re_wordIn2 hm0 hX.2.1 hX.2.2.1 (by rw [hX.1.1 6291468 (by decide) (by decide) (by decide)]; decide +kernel) (by rw [hX.1.1 6291468 (by decide) (by decide) (by decide)]; decide +kernel) (by rw [hX.1.1 17825963 (by decide) (by decide) (by decide)]; exact k_str2) (st := 0) (sp := 0) (i := i.toNat) ?_
  rw [k_wi1]
  by_cases q0 : x_c m i = 1 + (3 : Nat)
  · rw [if_pos ((x_wk hX 3 rfl).mpr q0)]
    exact h0 (by omega)
  rw [if_neg (fun z => q0 ((x_wk hX 3 rfl).mp z))]
  exact hn (by omega)
theorem k_str3 : k_str (cw_k0 18874539) 2 0 [[97, 115]] := by
  simp only [k_str]
  exact ⟨by decide +kernel, by decide +kernel, by decide +kernel, by decide +kernel⟩
theorem Rt_word3 {d : Nat} {m : cw_M} {Q : Option cw_V → cw_M → Prop} (hm0 : la_ok m) {tk : Int} (hX : X_h m tk) {co hd fi se te re : Int → Int} {fa pa op cl sz : Int} {i : Int} (h0 : x_c m i = 22 → Q (some (vi 0)) (q_m m co hd fi se te re fa (x_P m i) (x_E m i) pa op cl sz)) (hn : ¬ (x_c m i = 22) → Q (some (vi (-1))) (q_m m co hd fi se te re fa (x_P m i) (x_E m i) pa op cl sz)) : cw_C (d + 4) k_Re_wordIn [vr x_reader_, vr 7340044] (q_m m co hd fi se te re fa (x_P m i) (x_E m i) pa op cl sz) Q := by
  refine Re_wordIn3 hm0 hX.2.1 hX.2.2.1 (by rw [hX.1.1 7340044 (by decide) (by decide) (by decide)]; decide +kernel) (by rw [hX.1.1 7340044 (by decide) (by decide) (by decide)]; decide +kernel) (by rw [hX.1.1 18874539 (by decide) (by decide) (by decide)]; exact k_str3) (st := 0) (sp := 0) (i := i.toNat) ?_
  rw [k_wi1]
  by_cases q0 : x_c m i = 1 + (21 : Nat)
  · rw [if_pos ((x_wk hX 21 rfl).mpr q0)]
    exact h0 (by omega)
  rw [if_neg (fun z => q0 ((x_wk hX 21 rfl).mp z))]
  exact hn (by omega)
theorem k_str4 : k_str (cw_k0 19923115) 2 0 [[116, 111]] := by
  simp only [k_str]
  exact ⟨by decide +kernel, by decide +kernel, by decide +kernel, by decide +kernel⟩
theorem Rt_word4 {d : Nat} {m : cw_M} {Q : Option cw_V → cw_M → Prop} (hm0 : la_ok m) {tk : Int} (hX : X_h m tk) {co hd fi se te re : Int → Int} {fa pa op cl sz : Int} {i : Int} (h0 : x_c m i = 24 → Q (some (vi 0)) (q_m m co hd fi se te re fa (x_P m i) (x_E m i) pa op cl sz)) (hn : ¬ (x_c m i = 24) → Q (some (vi (-1))) (q_m m co hd fi se te re fa (x_P m i) (x_E m i) pa op cl sz)) : cw_C (d + 4) k_Re_wordIn [vr x_reader_, vr 8388620] (q_m m co hd fi se te re fa (x_P m i) (x_E m i) pa op cl sz) Q := by
  refine Re_wordIn4 hm0 hX.2.1 hX.2.2.1 (by rw [hX.1.1 8388620 (by decide) (by decide) (by decide)]; decide +kernel) (by rw [hX.1.1 8388620 (by decide) (by decide) (by decide)]; decide +kernel) (by rw [hX.1.1 19923115 (by decide) (by decide) (by decide)]; exact k_str4) (st := 0) (sp := 0) (i := i.toNat) ?_
  rw [k_wi1]
  by_cases q0 : x_c m i = 1 + (23 : Nat)
  · rw [if_pos ((x_wk hX 23 rfl).mpr q0)]
    exact h0 (by omega)
  rw [if_neg (fun z => q0 ((x_wk hX 23 rfl).mp z))]
  exact hn (by omega)
theorem k_str5 : k_str (cw_k0 20971883) 5 0 [[116, 105, 109, 101, 115]] := by
  simp only [k_str]
  exact ⟨by decide +kernel, by decide +kernel, by decide +kernel, by decide +kernel⟩
theorem Rt_word5 {d : Nat} {m : cw_M} {Q : Option cw_V → cw_M → Prop} (hm0 : la_ok m) {tk : Int} (hX : X_h m tk) {co hd fi se te re : Int → Int} {fa pa op cl sz : Int} {i : Int} (h0 : x_c m i = 13 → Q (some (vi 0)) (q_m m co hd fi se te re fa (x_P m i) (x_E m i) pa op cl sz)) (hn : ¬ (x_c m i = 13) → Q (some (vi (-1))) (q_m m co hd fi se te re fa (x_P m i) (x_E m i) pa op cl sz)) : cw_C (d + 4) k_Re_wordIn [vr x_reader_, vr 9437196] (q_m m co hd fi se te re fa (x_P m i) (x_E m i) pa op cl sz) Q := by
  refine Re_wordIn5 hm0 hX.2.1 hX.2.2.1 (by rw [hX.1.1 9437196 (by decide) (by decide) (by decide)]; decide +kernel) (by rw [hX.1.1 9437196 (by decide) (by decide) (by decide)]; decide +kernel) (by rw [hX.1.1 20971883 (by decide) (by decide) (by decide)]; exact k_str5) (st := 0) (sp := 0) (i := i.toNat) ?_
  rw [k_wi1]
  by_cases q0 : x_c m i = 1 + (12 : Nat)
  · rw [if_pos ((x_wk hX 12 rfl).mpr q0)]
    exact h0 (by omega)
  rw [if_neg (fun z => q0 ((x_wk hX 12 rfl).mp z))]
  exact hn (by omega)
theorem k_str6 : k_str (cw_k0 22020331) 3 0 [[110, 111, 116]] := by
  simp only [k_str]
  exact ⟨by decide +kernel, by decide +kernel, by decide +kernel, by decide +kernel⟩
theorem Rt_word6 {d : Nat} {m : cw_M} {Q : Option cw_V → cw_M → Prop} (hm0 : la_ok m) {tk : Int} (hX : X_h m tk) {co hd fi se te re : Int → Int} {fa pa op cl sz : Int} {i : Int} (h0 : x_c m i = 7 → Q (some (vi 0)) (q_m m co hd fi se te re fa (x_P m i) (x_E m i) pa op cl sz)) (hn : ¬ (x_c m i = 7) → Q (some (vi (-1))) (q_m m co hd fi se te re fa (x_P m i) (x_E m i) pa op cl sz)) : cw_C (d + 4) k_Re_wordIn [vr x_reader_, vr 10485772] (q_m m co hd fi se te re fa (x_P m i) (x_E m i) pa op cl sz) Q := by
  refine Re_wordIn6 hm0 hX.2.1 hX.2.2.1 (by rw [hX.1.1 10485772 (by decide) (by decide) (by decide)]; decide +kernel) (by rw [hX.1.1 10485772 (by decide) (by decide) (by decide)]; decide +kernel) (by rw [hX.1.1 22020331 (by decide) (by decide) (by decide)]; exact k_str6) (st := 0) (sp := 0) (i := i.toNat) ?_
  rw [k_wi1]
  by_cases q0 : x_c m i = 1 + (6 : Nat)
  · rw [if_pos ((x_wk hX 6 rfl).mpr q0)]
    exact h0 (by omega)
  rw [if_neg (fun z => q0 ((x_wk hX 6 rfl).mp z))]
  exact hn (by omega)
theorem k_str7 : k_str (cw_k0 23069803) 17 0 [[115, 104, 97, 114, 101, 115], [116, 97, 120, 101, 115], [98, 97, 114, 115]] := by
  simp only [k_str]
  exact ⟨by decide +kernel, by decide +kernel, by decide +kernel, by decide +kernel, by decide +kernel, by decide +kernel, by decide +kernel, by decide +kernel, by decide +kernel, by decide +kernel⟩
theorem Rt_word7 {d : Nat} {m : cw_M} {Q : Option cw_V → cw_M → Prop} (hm0 : la_ok m) {tk : Int} (hX : X_h m tk) {co hd fi se te re : Int → Int} {fa pa op cl sz : Int} {i : Int} (h0 : x_c m i = 1 → Q (some (vi 0)) (q_m m co hd fi se te re fa (x_P m i) (x_E m i) pa op cl sz)) (h1 : x_c m i = 2 → Q (some (vi 1)) (q_m m co hd fi se te re fa (x_P m i) (x_E m i) pa op cl sz)) (h2 : x_c m i = 3 → Q (some (vi 2)) (q_m m co hd fi se te re fa (x_P m i) (x_E m i) pa op cl sz)) (hn : ¬ (x_c m i = 1 ∨ x_c m i = 2 ∨ x_c m i = 3) → Q (some (vi (-1))) (q_m m co hd fi se te re fa (x_P m i) (x_E m i) pa op cl sz)) : cw_C (d + 4) k_Re_wordIn [vr x_reader_, vr 11534348] (q_m m co hd fi se te re fa (x_P m i) (x_E m i) pa op cl sz) Q := by
  refine Re_wordIn7 hm0 hX.2.1 hX.2.2.1 (by rw [hX.1.1 11534348 (by decide) (by decide) (by decide)]; decide +kernel) (by rw [hX.1.1 11534348 (by decide) (by decide) (by decide)]; decide +kernel) (by rw [hX.1.1 23069803 (by decide) (by decide) (by decide)]; exact k_str7) (st := 0) (sp := 0) (i := i.toNat) ?_
  rw [k_wi1]
  by_cases q0 : x_c m i = 1 + (0 : Nat)
  · rw [if_pos ((x_wk hX 0 rfl).mpr q0)]
    exact h0 (by omega)
  rw [if_neg (fun z => q0 ((x_wk hX 0 rfl).mp z))]
  rw [k_wi1]
  by_cases q1 : x_c m i = 1 + (1 : Nat)
  · rw [if_pos ((x_wk hX 1 rfl).mpr q1)]
    exact h1 (by omega)
  rw [if_neg (fun z => q1 ((x_wk hX 1 rfl).mp z))]
  rw [k_wi1]
  by_cases q2 : x_c m i = 1 + (2 : Nat)
  · rw [if_pos ((x_wk hX 2 rfl).mpr q2)]
    exact h2 (by omega)
  rw [if_neg (fun z => q2 ((x_wk hX 2 rfl).mp z))]
  exact hn (by omega)
theorem k_str8 : k_str (cw_k0 24119979) 42 0 [[106, 111, 105, 110], [108, 101, 102, 116], [114, 105, 103, 104, 116], [119, 111, 114, 116, 104], [104, 101, 105, 114], [116, 105, 109, 101, 115], [121, 101, 97, 114], [109, 111, 111, 100]] := by
  simp only [k_str]
  exact ⟨by decide +kernel, by decide +kernel, by decide +kernel, by decide +kernel, by decide +kernel, by decide +kernel, by decide +kernel, by decide +kernel, by decide +kernel, by decide +kernel, by decide +kernel, by decide +kernel, by decide +kernel, by decide +kernel, by decide +kernel, by decide +kernel, by decide +kernel, by decide +kernel, by decide +kernel, by decide +kernel, by decide +kernel, by decide +kernel, by decide +kernel, by decide +kernel, by decide +kernel⟩
theorem Rt_word8 {d : Nat} {m : cw_M} {Q : Option cw_V → cw_M → Prop} (hm0 : la_ok m) {tk : Int} (hX : X_h m tk) {co hd fi se te re : Int → Int} {fa pa op cl sz : Int} {i : Int} (h1 : 8 ≤ x_c m i ∧ x_c m i ≤ 15 → Q (some (vi (p_lw (x_c m i)))) (q_m m co hd fi se te re fa (x_P m i) (x_E m i) pa op cl sz)) (h0 : ¬ (8 ≤ x_c m i ∧ x_c m i ≤ 15) → Q (some (vi (-1))) (q_m m co hd fi se te re fa (x_P m i) (x_E m i) pa op cl sz)) : cw_C (d + 4) k_Re_wordIn [vr x_reader_, vr 12582924] (q_m m co hd fi se te re fa (x_P m i) (x_E m i) pa op cl sz) Q := by
  refine Re_wordIn8 hm0 hX.2.1 hX.2.2.1 (by rw [hX.1.1 12582924 (by decide) (by decide) (by decide)]; decide +kernel) (by rw [hX.1.1 12582924 (by decide) (by decide) (by decide)]; decide +kernel) (by rw [hX.1.1 24119979 (by decide) (by decide) (by decide)]; exact k_str8) (st := 0) (sp := 0) (i := i.toNat) ?_
  rw [k_wi1]
  by_cases q0 : x_c m i = 1 + (7 : Nat)
  · rw [if_pos ((x_wk hX 7 rfl).mpr q0)]
    have h := h1 (by omega)
    rw [show p_lw (x_c m i) = 0 by rw [q0]; rfl] at h
    exact h
  rw [if_neg (fun z => q0 ((x_wk hX 7 rfl).mp z))]
  rw [k_wi1]
  by_cases q1 : x_c m i = 1 + (8 : Nat)
  · rw [if_pos ((x_wk hX 8 rfl).mpr q1)]
    have h := h1 (by omega)
    rw [show p_lw (x_c m i) = 1 by rw [q1]; rfl] at h
    exact h
  rw [if_neg (fun z => q1 ((x_wk hX 8 rfl).mp z))]
  rw [k_wi1]
  by_cases q2 : x_c m i = 1 + (9 : Nat)
  · rw [if_pos ((x_wk hX 9 rfl).mpr q2)]
    have h := h1 (by omega)
    rw [show p_lw (x_c m i) = 2 by rw [q2]; rfl] at h
    exact h
  rw [if_neg (fun z => q2 ((x_wk hX 9 rfl).mp z))]
  rw [k_wi1]
  by_cases q3 : x_c m i = 1 + (10 : Nat)
  · rw [if_pos ((x_wk hX 10 rfl).mpr q3)]
    have h := h1 (by omega)
    rw [show p_lw (x_c m i) = 3 by rw [q3]; rfl] at h
    exact h
  rw [if_neg (fun z => q3 ((x_wk hX 10 rfl).mp z))]
  rw [k_wi1]
  by_cases q4 : x_c m i = 1 + (11 : Nat)
  · rw [if_pos ((x_wk hX 11 rfl).mpr q4)]
    have h := h1 (by omega)
    rw [show p_lw (x_c m i) = 4 by rw [q4]; rfl] at h
    exact h
  rw [if_neg (fun z => q4 ((x_wk hX 11 rfl).mp z))]
  rw [k_wi1]
  by_cases q5 : x_c m i = 1 + (12 : Nat)
  · rw [if_pos ((x_wk hX 12 rfl).mpr q5)]
    have h := h1 (by omega)
    rw [show p_lw (x_c m i) = 5 by rw [q5]; rfl] at h
    exact h
  rw [if_neg (fun z => q5 ((x_wk hX 12 rfl).mp z))]
  rw [k_wi1]
  by_cases q6 : x_c m i = 1 + (14 : Nat)
  · rw [if_pos ((x_wk hX 14 rfl).mpr q6)]
    have h := h1 (by omega)
    rw [show p_lw (x_c m i) = 6 by rw [q6]; rfl] at h
    exact h
  rw [if_neg (fun z => q6 ((x_wk hX 14 rfl).mp z))]
  rw [k_wi1]
  by_cases q7 : x_c m i = 1 + (13 : Nat)
  · rw [if_pos ((x_wk hX 13 rfl).mpr q7)]
    have h := h1 (by omega)
    rw [show p_lw (x_c m i) = 7 by rw [q7]; rfl] at h
    exact h
  rw [if_neg (fun z => q7 ((x_wk hX 13 rfl).mp z))]
  exact h0 (by omega)
theorem k_str9 : k_str (cw_k0 25167019) 18 0 [[109, 97, 114, 107], [116, 117, 114, 110], [100, 105, 101], [112, 97, 115, 115]] := by
  simp only [k_str]
  exact ⟨by decide +kernel, by decide +kernel, by decide +kernel, by decide +kernel, by decide +kernel, by decide +kernel, by decide +kernel, by decide +kernel, by decide +kernel, by decide +kernel, by decide +kernel, by decide +kernel, by decide +kernel⟩
theorem Rt_word9 {d : Nat} {m : cw_M} {Q : Option cw_V → cw_M → Prop} (hm0 : la_ok m) {tk : Int} (hX : X_h m tk) {co hd fi se te re : Int → Int} {fa pa op cl sz : Int} {i : Int} (h0 : x_c m i = 20 → Q (some (vi 0)) (q_m m co hd fi se te re fa (x_P m i) (x_E m i) pa op cl sz)) (h1 : x_c m i = 23 → Q (some (vi 1)) (q_m m co hd fi se te re fa (x_P m i) (x_E m i) pa op cl sz)) (h2 : x_c m i = 25 → Q (some (vi 2)) (q_m m co hd fi se te re fa (x_P m i) (x_E m i) pa op cl sz)) (h3 : x_c m i = 26 → Q (some (vi 3)) (q_m m co hd fi se te re fa (x_P m i) (x_E m i) pa op cl sz)) (hn : ¬ (x_c m i = 20 ∨ x_c m i = 23 ∨ x_c m i = 25 ∨ x_c m i = 26) → Q (some (vi (-1))) (q_m m co hd fi se te re fa (x_P m i) (x_E m i) pa op cl sz)) : cw_C (d + 4) k_Re_wordIn [vr x_reader_, vr 13631500] (q_m m co hd fi se te re fa (x_P m i) (x_E m i) pa op cl sz) Q := by
  refine Re_wordIn9 hm0 hX.2.1 hX.2.2.1 (by rw [hX.1.1 13631500 (by decide) (by decide) (by decide)]; decide +kernel) (by rw [hX.1.1 13631500 (by decide) (by decide) (by decide)]; decide +kernel) (by rw [hX.1.1 25167019 (by decide) (by decide) (by decide)]; exact k_str9) (st := 0) (sp := 0) (i := i.toNat) ?_
  rw [k_wi1]
  by_cases q0 : x_c m i = 1 + (19 : Nat)
  · rw [if_pos ((x_wk hX 19 rfl).mpr q0)]
    exact h0 (by omega)
  rw [if_neg (fun z => q0 ((x_wk hX 19 rfl).mp z))]
  rw [k_wi1]
  by_cases q1 : x_c m i = 1 + (22 : Nat)
  · rw [if_pos ((x_wk hX 22 rfl).mpr q1)]
    exact h1 (by omega)
  rw [if_neg (fun z => q1 ((x_wk hX 22 rfl).mp z))]
  rw [k_wi1]
  by_cases q2 : x_c m i = 1 + (24 : Nat)
  · rw [if_pos ((x_wk hX 24 rfl).mpr q2)]
    exact h2 (by omega)
  rw [if_neg (fun z => q2 ((x_wk hX 24 rfl).mp z))]
  rw [k_wi1]
  by_cases q3 : x_c m i = 1 + (25 : Nat)
  · rw [if_pos ((x_wk hX 25 rfl).mpr q3)]
    exact h3 (by omega)
  rw [if_neg (fun z => q3 ((x_wk hX 25 rfl).mp z))]
  exact hn (by omega)
theorem k_str10 : k_str (cw_k0 26217131) 42 0 [[121, 101, 97, 114], [100, 111, 110, 101], [108, 97, 116, 101, 115, 116], [114, 101, 97, 100, 105, 110, 103, 115], [108, 105, 118, 105, 110, 103], [109, 97, 114, 107], [107, 105, 110, 100]] := by
  simp only [k_str]
  exact ⟨by decide +kernel, by decide +kernel, by decide +kernel, by decide +kernel, by decide +kernel, by decide +kernel, by decide +kernel, by decide +kernel, by decide +kernel, by decide +kernel, by decide +kernel, by decide +kernel, by decide +kernel, by decide +kernel, by decide +kernel, by decide +kernel, by decide +kernel, by decide +kernel, by decide +kernel, by decide +kernel, by decide +kernel, by decide +kernel⟩
theorem Rt_word10 {d : Nat} {m : cw_M} {Q : Option cw_V → cw_M → Prop} (hm0 : la_ok m) {tk : Int} (hX : X_h m tk) {co hd fi se te re : Int → Int} {fa pa op cl sz : Int} {i : Int} (h1 : 15 ≤ x_c m i ∧ x_c m i ≤ 21 → Q (some (vi (x_c m i - 15))) (q_m m co hd fi se te re fa (x_P m i) (x_E m i) pa op cl sz)) (h0 : ¬ (15 ≤ x_c m i ∧ x_c m i ≤ 21) → Q (some (vi (-1))) (q_m m co hd fi se te re fa (x_P m i) (x_E m i) pa op cl sz)) : cw_C (d + 4) k_Re_wordIn [vr x_reader_, vr 14680076] (q_m m co hd fi se te re fa (x_P m i) (x_E m i) pa op cl sz) Q := by
  refine Re_wordIn10 hm0 hX.2.1 hX.2.2.1 (by rw [hX.1.1 14680076 (by decide) (by decide) (by decide)]; decide +kernel) (by rw [hX.1.1 14680076 (by decide) (by decide) (by decide)]; decide +kernel) (by rw [hX.1.1 26217131 (by decide) (by decide) (by decide)]; exact k_str10) (st := 0) (sp := 0) (i := i.toNat) ?_
  rw [k_wi1]
  by_cases q0 : x_c m i = 1 + (14 : Nat)
  · rw [if_pos ((x_wk hX 14 rfl).mpr q0)]
    have h := h1 (by omega)
    rw [show x_c m i - 15 = 0 by omega] at h
    exact h
  rw [if_neg (fun z => q0 ((x_wk hX 14 rfl).mp z))]
  rw [k_wi1]
  by_cases q1 : x_c m i = 1 + (15 : Nat)
  · rw [if_pos ((x_wk hX 15 rfl).mpr q1)]
    have h := h1 (by omega)
    rw [show x_c m i - 15 = 1 by omega] at h
    exact h
  rw [if_neg (fun z => q1 ((x_wk hX 15 rfl).mp z))]
  rw [k_wi1]
  by_cases q2 : x_c m i = 1 + (16 : Nat)
  · rw [if_pos ((x_wk hX 16 rfl).mpr q2)]
    have h := h1 (by omega)
    rw [show x_c m i - 15 = 2 by omega] at h
    exact h
  rw [if_neg (fun z => q2 ((x_wk hX 16 rfl).mp z))]
  rw [k_wi1]
  by_cases q3 : x_c m i = 1 + (17 : Nat)
  · rw [if_pos ((x_wk hX 17 rfl).mpr q3)]
    have h := h1 (by omega)
    rw [show x_c m i - 15 = 3 by omega] at h
    exact h
  rw [if_neg (fun z => q3 ((x_wk hX 17 rfl).mp z))]
  rw [k_wi1]
  by_cases q4 : x_c m i = 1 + (18 : Nat)
  · rw [if_pos ((x_wk hX 18 rfl).mpr q4)]
    have h := h1 (by omega)
    rw [show x_c m i - 15 = 4 by omega] at h
    exact h
  rw [if_neg (fun z => q4 ((x_wk hX 18 rfl).mp z))]
  rw [k_wi1]
  by_cases q5 : x_c m i = 1 + (19 : Nat)
  · rw [if_pos ((x_wk hX 19 rfl).mpr q5)]
    have h := h1 (by omega)
    rw [show x_c m i - 15 = 5 by omega] at h
    exact h
  rw [if_neg (fun z => q5 ((x_wk hX 19 rfl).mp z))]
  rw [k_wi1]
  by_cases q6 : x_c m i = 1 + (20 : Nat)
  · rw [if_pos ((x_wk hX 20 rfl).mpr q6)]
    have h := h1 (by omega)
    rw [show x_c m i - 15 = 6 by omega] at h
    exact h
  rw [if_neg (fun z => q6 ((x_wk hX 20 rfl).mp z))]
  exact h0 (by omega)
theorem Re_fail {d : Nat} {m : cw_M} {Q : Option cw_V → cw_M → Prop} (hm0 : la_ok m) {co hd fi se te re : Int → Int} {fa st sp pa op cl sz : Int} (h : Q (some (vi 0)) (q_m m co hd fi se te re st st sp pa op cl sz)) : cw_C d k_Re_fail [vr x_reader_] (q_m m co hd fi se te re fa st sp pa op cl sz) Q := by
  have hm : la_ok (q_m m co hd fi se te re fa st sp pa op cl sz) := q_m_ok hm0
  refine la_go_C hm 9 [] ?_
  have hm1 : la_ok (cw_put (q_m m co hd fi se te re fa st sp pa op cl sz) x_reader_ 2 st) := la_put hm (by decide) (Or.inl rfl)
  refine And.intro (Or.inl rfl) ?_
  show Q (some (vi 0)) (cw_put (q_m m co hd fi se te re fa st sp pa op cl sz) x_reader_ 2 st)
  rw [q_m_ffa]
  have hm2 : la_ok (q_m m co hd fi se te re st st sp pa op cl sz) := q_m_ok hm0
  exact h
theorem Te_emit {d : Nat} {m : cw_M} {Q : Option cw_V → cw_M → Prop} (hm0 : la_ok m) {co hd fi se te re : Int → Int} {fa st sp pa op cl sz : Int} {p ab w : Int} (hp : 0 ≤ p ∧ p < 16) (hab : 0 ≤ ab ∧ ab ≤ 1000) (hsz : 0 ≤ sz ∧ sz < 400) (hw : 16 * ab + p = w) (h : Q (some (vi sz)) (q_m m (cw_up co sz w) hd fi se te re fa st sp pa op cl (sz + 1))) : cw_C d k_Te_emit [vr x_reader_text_, vi p, vi ab] (q_m m co hd fi se te re fa st sp pa op cl sz) Q := by
  have hm : la_ok (q_m m co hd fi se te re fa st sp pa op cl sz) := q_m_ok hm0
  refine la_go_C hm 30 [] ?_
  refine And.intro (fun (c1 : 400 ≤ sz) => ?_) (fun (c1 : ¬ (400 ≤ sz)) => ?_)
  · refine And.intro (show -2147483648 ≤ sz - 1 ∧ sz - 1 < 2147483648 by omega) ?_
    show Q (some (vi (sz - 1))) (q_m m co hd fi se te re fa st sp pa op cl sz)
    exfalso; omega
  · refine And.intro (show 0 ≤ sz ∧ sz < 400 by omega) ?_
    have hm2 : la_ok (cw_put (q_m m co hd fi se te re fa st sp pa op cl sz) x_reader_text_code_ sz (cw_ior (cw_ishl ab 4) p)) := la_put hm (by decide) (Or.inr (by decide))
    refine And.intro (show -2147483648 ≤ sz + 1 ∧ sz + 1 < 2147483648 by omega) ?_
    have hm3 : la_ok (cw_put (cw_put (q_m m co hd fi se te re fa st sp pa op cl sz) x_reader_text_code_ sz (cw_ior (cw_ishl ab 4) p)) x_reader_text_ 1 (sz + 1)) := la_put hm2 (by decide) (Or.inl rfl)
    refine And.intro (show -2147483648 ≤ (sz + 1) - 1 ∧ (sz + 1) - 1 < 2147483648 by omega) ?_
    show Q (some (vi ((sz + 1) - 1))) (cw_put (cw_put (q_m m co hd fi se te re fa st sp pa op cl sz) x_reader_text_code_ sz (cw_ior (cw_ishl ab 4) p)) x_reader_text_ 1 (sz + 1))
    rw [q_m_pco, q_m_fsz]
    have hm4 : la_ok (q_m m (cw_up co sz (cw_ior (cw_ishl ab 4) p)) hd fi se te re fa st sp pa op cl (sz + 1)) := q_m_ok hm0
    rw [e_emi hab hp, hw, show sz + 1 - 1 = sz by omega]
    exact h
theorem Te_skipToHere {d : Nat} {m : cw_M} {Q : Option cw_V → cw_M → Prop} (hm0 : la_ok m) {co hd fi se te re : Int → Int} {fa st sp pa op cl sz : Int} {p : Int} (hp : 0 ≤ p ∧ p < sz) (hsz : sz ≤ 400) (hco : 0 ≤ co p ∧ co p < 16384) (h : Q none (q_m m (cw_up co p (16 * sz + co p % 16)) hd fi se te re fa st sp pa op cl sz)) : cw_C (d + 1) k_Te_skipToHere [vr x_reader_text_, vi p] (q_m m co hd fi se te re fa st sp pa op cl sz) Q := by
  have hm : la_ok (q_m m co hd fi se te re fa st sp pa op cl sz) := q_m_ok hm0
  refine la_go_C hm 24 [] ?_
  show cw_C _ _ [vi p, vi sz] (q_m m co hd fi se te re fa st sp pa op cl sz) _
  refine C_isBelow (fun (a1 : 0 ≤ p) (a2 : p < sz) => ⟨hm, ?_⟩) (fun (a3 : ¬ (0 ≤ p ∧ p < sz)) => ⟨hm, ?_⟩)
  · refine br_f (show ¬ ((1 : Int) = 0) by decide) ?_
    refine And.intro (show 0 ≤ p ∧ p < 400 by omega) ?_
    refine And.intro (show 0 ≤ p ∧ p < 400 by omega) ?_
    have hm4 : la_ok (cw_put (q_m m co hd fi se te re fa st sp pa op cl sz) x_reader_text_code_ p (cw_ior (cw_ishl sz 4) (cw_iand (co p) 15))) := la_put hm (by decide) (Or.inr (by decide))
    show Q none (cw_put (q_m m co hd fi se te re fa st sp pa op cl sz) x_reader_text_code_ p (cw_ior (cw_ishl sz 4) (cw_iand (co p) 15)))
    rw [q_m_pco]
    have hm5 : la_ok (q_m m (cw_up co p (cw_ior (cw_ishl sz 4) (cw_iand (co p) 15))) hd fi se te re fa st sp pa op cl sz) := q_m_ok hm0
    rw [(e_15 hco).1, e_emi (by omega) (by omega)]
    exact h
  · refine br_t (show (0 : Int) = 0 by decide) ?_
    show Q none (q_m m co hd fi se te re fa st sp pa op cl sz)
    exfalso; omega
theorem Re_finish {d : Nat} {m : cw_M} {Q : Option cw_V → cw_M → Prop} (hm0 : la_ok m) {co hd fi se te re : Int → Int} {fa st sp pa op cl sz : Int} (hsz : 0 ≤ sz ∧ sz < 400) (h : Q (some (vi 1)) (q_m m (cw_up co sz 0) hd fi se te re fa st sp pa op cl (sz + 1))) : cw_C (d + 1) k_Re_finish [vr x_reader_] (q_m m co hd fi se te re fa st sp pa op cl sz) Q := by
  have hm : la_ok (q_m m co hd fi se te re fa st sp pa op cl sz) := q_m_ok hm0
  refine la_go_C hm 11 [] ?_
  show cw_C _ _ [vr x_reader_text_, vi 0, vi 0] (q_m m co hd fi se te re fa st sp pa op cl sz) _
  refine Te_emit hm0 (by omega) (by omega) (by omega) rfl ⟨(q_m_ok hm0), ?_⟩
  refine And.intro (Or.inr rfl) ?_
  show Q (some (vi 1)) (q_m m (cw_up co sz (0)) hd fi se te re fa st sp pa op cl (sz + 1))
  exact h
