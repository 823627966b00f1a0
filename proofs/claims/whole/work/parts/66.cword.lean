/-! Words of the class (wip/whole/tools/m66.py). -/
theorem Js_coder {d : Nat} {m : cw_M} {c : Int} {Q : Option cw_V → cw_M → Prop} (ht : cw_tg c = 12) (h1 : m c 1 = 0) (h : Q (some (vi 0)) m) : cw_C d k_Js_coder [vr c] m Q := by
  refine cw_go_C 12 [] ?_
  refine br_f (by decide) ?_
  refine And.intro ht ?_
  refine And.intro (show -128 ≤ m c 1 ∧ m c 1 < 128 by omega) ?_
  show Q (some (vi (m c 1))) m
  rw [h1]; exact h
theorem Js_isLatin1 {d : Nat} {m : cw_M} {c : Int} {Q : Option cw_V → cw_M → Prop} (ht : cw_tg c = 12) (h1 : m c 1 = 0) (h : Q (some (vi 1)) m) : cw_C d k_Js_isLatin1 [vr c] m Q := by
  refine cw_go_C 12 [] ?_
  refine br_f (by decide) ?_
  refine And.intro ht ?_
  refine br_f (show ¬ (m c 1 ≠ 0) by omega) ?_
  exact And.intro (Or.inr rfl) h
theorem k_shr0 : ∀ x : Fin 64, cw_ishr x.val 0 = x.val := by decide +kernel
theorem Js_length {d : Nat} {m : cw_M} {c L : Int} {Q : Option cw_V → cw_M → Prop} (ht : cw_tg c = 12) (h1 : m c 1 = 0) (hL : cw_ln (m c 0) = L) (hL2 : 0 ≤ L ∧ L < 64) (ht2 : 40 ≤ cw_tg (m c 0)) (h : Q (some (vi L)) m) : cw_C (d + 1) k_Js_length [vr c] m Q := by
  refine cw_go_C 12 [] ?_
  refine And.intro ht ?_
  refine And.intro ht2 ?_
  refine And.intro ht ?_
  refine Js_coder ht h1 ?_
  show Q (some (vi (cw_ishr (cw_ln (m c 0)) 0))) m
  have e : L = ((⟨L.toNat, by omega⟩ : Fin 64).val : Int) := by show L = (L.toNat : Int); omega
  have e2 := k_shr0 ⟨L.toNat, by omega⟩
  rw [← e] at e2
  rw [hL, e2]; exact h
theorem k_255y : ∀ x : Fin 128, cw_i2c (cw_iand x.val 255) = x.val := by decide +kernel
theorem Jp_checkIndex {d : Nat} {m : cw_M} {i n : Int} {Q : Option cw_V → cw_M → Prop} (hi : 0 ≤ i ∧ i < n) (h : Q (some (vi i)) m) : cw_C d k_Jp_checkIndex [vi i, vi n, none] m Q := by
  refine cw_go_C 12 [] ?_
  refine br_f (show ¬ (i < 0) by omega) ?_
  refine br_t (show i < n by omega) ?_
  exact h
theorem Js_checkIndex {d : Nat} {m : cw_M} {i n : Int} {Q : Option cw_V → cw_M → Prop} (hi : 0 ≤ i ∧ i < n) (h : Q none m) : cw_C (d + 1) k_Js_checkIndex [vi i, vi n] m Q := by
  refine cw_go_C 12 [] ?_
  exact Jp_checkIndex hi h
theorem Jl_charAt {d : Nat} {m : cw_M} {c i : Int} {Q : Option cw_V → cw_M → Prop} (ht : cw_tg c = 43) (hi : 0 ≤ i ∧ i < cw_ln c) (hv : 0 ≤ m c i ∧ m c i < 128) (h : Q (some (vi (m c i))) m) : cw_C (d + 2) k_Jl_charAt [vr c, vi i] m Q := by
  have e : m c i = ((⟨(m c i).toNat, by omega⟩ : Fin 128).val : Int) := by show m c i = ((m c i).toNat : Int); omega
  have e2 := k_255y ⟨(m c i).toNat, by omega⟩
  rw [← e] at e2
  refine cw_go_C 12 [] ?_
  refine And.intro (by omega) ?_
  refine Js_checkIndex hi ?_
  refine And.intro ⟨Or.inr ht, hi⟩ ?_
  refine And.intro (show 0 ≤ cw_i2c (cw_iand (m c i) 255) ∧ cw_i2c (cw_iand (m c i) 255) < 65536 by omega) ?_
  show Q (some (vi (cw_i2c (cw_iand (m c i) 255)))) m
  rw [e2]; exact h
theorem Js_charAt {d : Nat} {m : cw_M} {c B i : Int} {Q : Option cw_V → cw_M → Prop} (ht : cw_tg c = 12) (h1 : m c 1 = 0) (hB : m c 0 = B) (ht2 : cw_tg B = 43) (hi : 0 ≤ i ∧ i < cw_ln B) (hv : 0 ≤ m B i ∧ m B i < 128) (h : Q (some (vi (m B i))) m) : cw_C (d + 3) k_Js_charAt [vr c, vi i] m Q := by
  refine cw_go_C 12 [] ?_
  refine And.intro ht ?_
  refine Js_isLatin1 ht h1 ?_
  refine br_f (by decide) ?_
  refine And.intro ht ?_
  show cw_C _ _ [vr (m c 0), vi i] m _
  rw [hB]
  refine Jl_charAt ht2 hi hv ?_
  exact And.intro (show 0 ≤ m B i ∧ m B i < 65536 by omega) h
/-- which word of a list, or -1 -/
def k_wi (b : Int → Int) (s e : Int) : List (List Int) → Int → Int
  | [], _ => -1
  | x :: t, w => if k_is b s e x = true then w else k_wi b s e t (w + 1)
/-- a text of words with a blank between two, from a place on -/
def k_str (sb : Int → Int) (L : Int) : Int → List (List Int) → Prop
  | i, [] => i = L + 1
  | i, x :: t => (∀ q : Nat, q < x.length → sb (i + q) = x.getD q 0 ∧ x.getD q 0 ≠ 32 ∧ 0 ≤ x.getD q 0 ∧ x.getD q 0 < 128) ∧ (i + x.length = L ∨ (i + x.length < L ∧ sb (i + x.length) = 32)) ∧ 0 ≤ i ∧ k_str sb L (i + x.length + 1) t

theorem Re_wordIn0 {d : Nat} {m : cw_M} {Q : Option cw_V → cw_M → Prop} (hm0 : la_ok m) (hn : 0 ≤ m x_reader_ 1 ∧ m x_reader_ 1 ≤ 400) (hb : ∀ i, 0 ≤ i → i < m x_reader_ 1 → 0 ≤ m x_reader_bytes_ i ∧ m x_reader_bytes_ i ≤ 255) (hs0 : m 4194316 0 = 15728875) (hs1 : m 4194316 1 = 0) (hstr : k_str (m 15728875) 3 0 [[97, 110, 100]]) {co hd fi se te re : Int → Int} {fa st sp pa op cl sz : Int} {i : Nat} (h : Q (some (vi (k_wi (m x_reader_bytes_) (k_pl (m x_reader_bytes_) (m x_reader_ 1) i) (k_en (m x_reader_bytes_) (m x_reader_ 1) (k_pl (m x_reader_bytes_) (m x_reader_ 1) i)) [[97, 110, 100]] 0))) (q_m m co hd fi se te re fa (k_pl (m x_reader_bytes_) (m x_reader_ 1) i) (k_en (m x_reader_bytes_) (m x_reader_ 1) (k_pl (m x_reader_bytes_) (m x_reader_ 1) i)) pa op cl sz)) : cw_C (d + 4) k_Re_wordIn [vr x_reader_, vr 4194316] (q_m m co hd fi se te re fa (k_pl (m x_reader_bytes_) (m x_reader_ 1) i) (k_en (m x_reader_bytes_) (m x_reader_ 1) (k_pl (m x_reader_bytes_) (m x_reader_ 1) i)) pa op cl sz) Q := by
  have hm : la_ok (q_m m co hd fi se te re fa (k_pl (m x_reader_bytes_) (m x_reader_ 1) i) (k_en (m x_reader_bytes_) (m x_reader_ 1) (k_pl (m x_reader_bytes_) (m x_reader_ 1) i)) pa op cl sz) := q_m_ok hm0
  have pr := k_plr (b := (m x_reader_bytes_)) hn.1 i
  have er := Re_enr (b := (m x_reader_bytes_)) hn.1 i
  have main : ∀ (ws : List (List Int)) (o w : Int), k_str (m 15728875) 3 o ws → Q (some (vi (k_wi (m x_reader_bytes_) (k_pl (m x_reader_bytes_) (m x_reader_ 1) i) (k_en (m x_reader_bytes_) (m x_reader_ 1) (k_pl (m x_reader_bytes_) (m x_reader_ 1) i)) ws w))) (q_m m co hd fi se te re fa (k_pl (m x_reader_bytes_) (m x_reader_ 1) i) (k_en (m x_reader_bytes_) (m x_reader_ 1) (k_pl (m x_reader_bytes_) (m x_reader_ 1) i)) pa op cl sz) → (0 ≤ w ∧ w + ws.length < 1000) → cw_R (d + 4) k_Re_wordIn 13 [vr x_reader_, vr 4194316, vi w, vi (k_pl (m x_reader_bytes_) (m x_reader_ 1) i), vi 1, vi o] [] (q_m m co hd fi se te re fa (k_pl (m x_reader_bytes_) (m x_reader_ 1) i) (k_en (m x_reader_bytes_) (m x_reader_ 1) (k_pl (m x_reader_bytes_) (m x_reader_ 1) i)) pa op cl sz) Q := by
    intro ws
    induction ws with
    | nil =>
      intro o w ht hQ hw
      have ht : o = 3 + 1 := ht
      refine la_go_R hm 9 [] ?_
      show cw_C _ _ [vr 4194316] (q_m m co hd fi se te re fa (k_pl (m x_reader_bytes_) (m x_reader_ 1) i) (k_en (m x_reader_bytes_) (m x_reader_ 1) (k_pl (m x_reader_bytes_) (m x_reader_ 1) i)) pa op cl sz) _
      refine Js_length (L := 3) rfl hs1 (by show cw_ln (m 4194316 0) = _; rw [hs0]; rfl) (by decide) (by show 40 ≤ cw_tg (m 4194316 0); rw [hs0]; decide) ⟨hm, ?_⟩
      refine br_t (show 3 < o by omega) ?_
      show Q (some (vi (-1))) (q_m m co hd fi se te re fa (k_pl (m x_reader_bytes_) (m x_reader_ 1) i) (k_en (m x_reader_bytes_) (m x_reader_ 1) (k_pl (m x_reader_bytes_) (m x_reader_ 1) i)) pa op cl sz)
      exact hQ
    | cons x t ihw =>
      intro o w ht hQ hw
      have hwl : w + (x :: t).length = w + 1 + t.length := by rw [List.length_cons]; omega
      have ht : (∀ q : Nat, q < x.length → m 15728875 (o + q) = x.getD q 0 ∧ x.getD q 0 ≠ 32 ∧ 0 ≤ x.getD q 0 ∧ x.getD q 0 < 128) ∧ (o + (x.length : Int) = 3 ∨ (o + (x.length : Int) < 3 ∧ m 15728875 (o + (x.length : Int)) = 32)) ∧ 0 ≤ o ∧ k_str (m 15728875) 3 (o + (x.length : Int) + 1) t := ht
      have ho := ht.2.2.1
      have hxl := ht.2.1
      have lw : ∀ (r : Nat) (q az same : Int), (x.length : Int) < q + r → (0 ≤ q ∧ q ≤ (x.length : Int)) → ((same = 1 ∧ az = (k_pl (m x_reader_bytes_) (m x_reader_ 1) i) + q ∧ ∀ q' : Nat, (q' : Int) < q → (k_pl (m x_reader_bytes_) (m x_reader_ 1) i) + q' < (k_en (m x_reader_bytes_) (m x_reader_ 1) (k_pl (m x_reader_bytes_) (m x_reader_ 1) i)) ∧ m x_reader_bytes_ ((k_pl (m x_reader_bytes_) (m x_reader_ 1) i) + q') = x.getD q' 0) ∨ (same = 0 ∧ k_is (m x_reader_bytes_) (k_pl (m x_reader_bytes_) (m x_reader_ 1) i) (k_en (m x_reader_bytes_) (m x_reader_ 1) (k_pl (m x_reader_bytes_) (m x_reader_ 1) i)) x = false)) → cw_R (d + 4) k_Re_wordIn 13 [vr x_reader_, vr 4194316, vi w, vi az, vi same, vi (o + q)] [] (q_m m co hd fi se te re fa (k_pl (m x_reader_bytes_) (m x_reader_ 1) i) (k_en (m x_reader_bytes_) (m x_reader_ 1) (k_pl (m x_reader_bytes_) (m x_reader_ 1) i)) pa op cl sz) Q := by
        intro r
        induction r with
        | zero =>
          intro q az same hr hq0 hI
          omega
        | succ r ih =>
          intro q az same hr hq0 hI
          have cq : (q = (x.length : Int) ∧ (o + q = 3 ∨ (o + q < 3 ∧ m 15728875 (o + q) = 32))) ∨ (q < (x.length : Int) ∧ o + q < 3 ∧ m 15728875 (o + q) ≠ 32 ∧ 0 ≤ m 15728875 (o + q) ∧ m 15728875 (o + q) < 128) := by
            by_cases z : q = (x.length : Int)
            · left; rw [z]; exact ⟨rfl, ht.2.1⟩
            · right; have c2 := ht.1 q.toNat (by omega); rw [show o + ((q.toNat : Nat) : Int) = o + q by omega] at c2; have c3 := ht.2.1; omega
          have ba : az < (k_en (m x_reader_bytes_) (m x_reader_ 1) (k_pl (m x_reader_bytes_) (m x_reader_ 1) i)) → (k_pl (m x_reader_bytes_) (m x_reader_ 1) i) ≤ az → 0 ≤ m x_reader_bytes_ az ∧ m x_reader_bytes_ az ≤ 255 := fun a c => hb az (by omega) (by omega)
          have hat : same = 1 → (k_pl (m x_reader_bytes_) (m x_reader_ 1) i) ≤ az := fun h => by rcases hI with ⟨-, h2, -⟩ | ⟨h2, -⟩ <;> omega
          have hsm : same = 0 ∨ same = 1 := by rcases hI with ⟨h2, -, -⟩ | ⟨h2, -⟩ <;> omega
          have hat9 : same = 1 → az = (k_pl (m x_reader_bytes_) (m x_reader_ 1) i) + q := fun h => by rcases hI with ⟨-, h2, -⟩ | ⟨h2, -⟩ <;> omega
          refine la_go_R hm 36 [13] ?_
          show cw_C _ _ [vr 4194316] (q_m m co hd fi se te re fa (k_pl (m x_reader_bytes_) (m x_reader_ 1) i) (k_en (m x_reader_bytes_) (m x_reader_ 1) (k_pl (m x_reader_bytes_) (m x_reader_ 1) i)) pa op cl sz) _
          refine Js_length (L := 3) rfl hs1 (by show cw_ln (m 4194316 0) = _; rw [hs0]; rfl) (by decide) (by show 40 ≤ cw_tg (m 4194316 0); rw [hs0]; decide) ⟨hm, ?_⟩
          refine And.intro (fun (c1 : 3 < o + q) => ?_) (fun (c1 : ¬ (3 < o + q)) => ?_)
          · show Q (some (vi (-1))) (q_m m co hd fi se te re fa (k_pl (m x_reader_bytes_) (m x_reader_ 1) i) (k_en (m x_reader_bytes_) (m x_reader_ 1) (k_pl (m x_reader_bytes_) (m x_reader_ 1) i)) pa op cl sz)
            exfalso
            rcases cq with cq | cq <;> omega
          · show cw_C _ _ [vr 4194316] (q_m m co hd fi se te re fa (k_pl (m x_reader_bytes_) (m x_reader_ 1) i) (k_en (m x_reader_bytes_) (m x_reader_ 1) (k_pl (m x_reader_bytes_) (m x_reader_ 1) i)) pa op cl sz) _
            refine Js_length (L := 3) rfl hs1 (by show cw_ln (m 4194316 0) = _; rw [hs0]; rfl) (by decide) (by show 40 ≤ cw_tg (m 4194316 0); rw [hs0]; decide) ⟨hm, ?_⟩
            refine And.intro (fun (c2 : o + q = 3) => ?_) (fun (c2 : ¬ (o + q = 3)) => ?_)
            · refine And.intro (fun (c3 : same = 0) => ?_) (fun (c3 : ¬ (same = 0)) => ?_)
              · refine And.intro (show -2147483648 ≤ w + 1 ∧ w + 1 < 2147483648 by omega) ?_
                refine And.intro (show -2147483648 ≤ (o + q) + 1 ∧ (o + q) + 1 < 2147483648 by omega) ?_
                show cw_R _ _ 13 [vr x_reader_, vr 4194316, vi (w + 1), vi (k_pl (m x_reader_bytes_) (m x_reader_ 1) i), vi 1, vi ((o + q) + 1)] [] (q_m m co hd fi se te re fa (k_pl (m x_reader_bytes_) (m x_reader_ 1) i) (k_en (m x_reader_bytes_) (m x_reader_ 1) (k_pl (m x_reader_bytes_) (m x_reader_ 1) i)) pa op cl sz) _
                have hq : q = (x.length : Int) := by
                  rcases cq with cq | cq <;> omega
                have hk : k_is (m x_reader_bytes_) (k_pl (m x_reader_bytes_) (m x_reader_ 1) i) (k_en (m x_reader_bytes_) (m x_reader_ 1) (k_pl (m x_reader_bytes_) (m x_reader_ 1) i)) x = false := by
                  cases hk : k_is (m x_reader_bytes_) (k_pl (m x_reader_bytes_) (m x_reader_ 1) i) (k_en (m x_reader_bytes_) (m x_reader_ 1) (k_pl (m x_reader_bytes_) (m x_reader_ 1) i)) x with
                  | false => rfl
                  | true => have z := (k_ist.mp hk).1; rcases hI with ⟨h, h2, hI⟩ | ⟨h, hI⟩
                            · omega
                            · rw [hI] at hk; cases hk
                have z : k_wi (m x_reader_bytes_) (k_pl (m x_reader_bytes_) (m x_reader_ 1) i) (k_en (m x_reader_bytes_) (m x_reader_ 1) (k_pl (m x_reader_bytes_) (m x_reader_ 1) i)) (x :: t) w = k_wi (m x_reader_bytes_) (k_pl (m x_reader_bytes_) (m x_reader_ 1) i) (k_en (m x_reader_bytes_) (m x_reader_ 1) (k_pl (m x_reader_bytes_) (m x_reader_ 1) i)) t (w + 1) := by show (if k_is (m x_reader_bytes_) (k_pl (m x_reader_bytes_) (m x_reader_ 1) i) (k_en (m x_reader_bytes_) (m x_reader_ 1) (k_pl (m x_reader_bytes_) (m x_reader_ 1) i)) x = true then w else _) = _; rw [if_neg (by rw [hk]; decide)]
                rw [z] at hQ
                rw [show o + q + 1 = o + (x.length : Int) + 1 by omega]
                exact ihw _ _ ht.2.2.2 hQ (by omega)
              · refine And.intro (fun (c4 : az ≠ (k_en (m x_reader_bytes_) (m x_reader_ 1) (k_pl (m x_reader_bytes_) (m x_reader_ 1) i))) => ?_) (fun (c4 : ¬ (az ≠ (k_en (m x_reader_bytes_) (m x_reader_ 1) (k_pl (m x_reader_bytes_) (m x_reader_ 1) i)))) => ?_)
                · refine And.intro (show -2147483648 ≤ w + 1 ∧ w + 1 < 2147483648 by omega) ?_
                  refine And.intro (show -2147483648 ≤ (o + q) + 1 ∧ (o + q) + 1 < 2147483648 by omega) ?_
                  show cw_R _ _ 13 [vr x_reader_, vr 4194316, vi (w + 1), vi (k_pl (m x_reader_bytes_) (m x_reader_ 1) i), vi 1, vi ((o + q) + 1)] [] (q_m m co hd fi se te re fa (k_pl (m x_reader_bytes_) (m x_reader_ 1) i) (k_en (m x_reader_bytes_) (m x_reader_ 1) (k_pl (m x_reader_bytes_) (m x_reader_ 1) i)) pa op cl sz) _
                  have hq : q = (x.length : Int) := by
                    rcases cq with cq | cq <;> omega
                  have hk : k_is (m x_reader_bytes_) (k_pl (m x_reader_bytes_) (m x_reader_ 1) i) (k_en (m x_reader_bytes_) (m x_reader_ 1) (k_pl (m x_reader_bytes_) (m x_reader_ 1) i)) x = false := by
                    cases hk : k_is (m x_reader_bytes_) (k_pl (m x_reader_bytes_) (m x_reader_ 1) i) (k_en (m x_reader_bytes_) (m x_reader_ 1) (k_pl (m x_reader_bytes_) (m x_reader_ 1) i)) x with
                    | false => rfl
                    | true => have z := (k_ist.mp hk).1; rcases hI with ⟨h, h2, hI⟩ | ⟨h, hI⟩
                              · omega
                              · rw [hI] at hk; cases hk
                  have z : k_wi (m x_reader_bytes_) (k_pl (m x_reader_bytes_) (m x_reader_ 1) i) (k_en (m x_reader_bytes_) (m x_reader_ 1) (k_pl (m x_reader_bytes_) (m x_reader_ 1) i)) (x :: t) w = k_wi (m x_reader_bytes_) (k_pl (m x_reader_bytes_) (m x_reader_ 1) i) (k_en (m x_reader_bytes_) (m x_reader_ 1) (k_pl (m x_reader_bytes_) (m x_reader_ 1) i)) t (w + 1) := by show (if k_is (m x_reader_bytes_) (k_pl (m x_reader_bytes_) (m x_reader_ 1) i) (k_en (m x_reader_bytes_) (m x_reader_ 1) (k_pl (m x_reader_bytes_) (m x_reader_ 1) i)) x = true then w else _) = _; rw [if_neg (by rw [hk]; decide)]
                  rw [z] at hQ
                  rw [show o + q + 1 = o + (x.length : Int) + 1 by omega]
                  exact ihw _ _ ht.2.2.2 hQ (by omega)
                · show Q (some (vi w)) (q_m m co hd fi se te re fa (k_pl (m x_reader_bytes_) (m x_reader_ 1) i) (k_en (m x_reader_bytes_) (m x_reader_ 1) (k_pl (m x_reader_bytes_) (m x_reader_ 1) i)) pa op cl sz)
                  have hq : q = (x.length : Int) := by
                    rcases cq with cq | cq <;> omega
                  have hk : k_is (m x_reader_bytes_) (k_pl (m x_reader_bytes_) (m x_reader_ 1) i) (k_en (m x_reader_bytes_) (m x_reader_ 1) (k_pl (m x_reader_bytes_) (m x_reader_ 1) i)) x = true := by
                    rcases hI with ⟨h, h2, hI⟩ | ⟨h, hI⟩
                    · exact k_ist.mpr ⟨by omega, fun q' hq' => (hI q' (by omega)).2⟩
                    · omega
                  have z : k_wi (m x_reader_bytes_) (k_pl (m x_reader_bytes_) (m x_reader_ 1) i) (k_en (m x_reader_bytes_) (m x_reader_ 1) (k_pl (m x_reader_bytes_) (m x_reader_ 1) i)) (x :: t) w = w := by show (if k_is (m x_reader_bytes_) (k_pl (m x_reader_bytes_) (m x_reader_ 1) i) (k_en (m x_reader_bytes_) (m x_reader_ 1) (k_pl (m x_reader_bytes_) (m x_reader_ 1) i)) x = true then w else _) = _; rw [if_pos hk]
                  rw [z] at hQ
                  exact hQ
            · show cw_C _ _ [vr 4194316, vi (o + q)] (q_m m co hd fi se te re fa (k_pl (m x_reader_bytes_) (m x_reader_ 1) i) (k_en (m x_reader_bytes_) (m x_reader_ 1) (k_pl (m x_reader_bytes_) (m x_reader_ 1) i)) pa op cl sz) _
              refine Js_charAt (B := 15728875) rfl hs1 hs0 rfl (show 0 ≤ o + q ∧ o + q < 3 by omega) (show 0 ≤ m 15728875 (o + q) ∧ m 15728875 (o + q) < 128 by rcases cq with cq | cq <;> omega) ⟨hm, ?_⟩
              refine And.intro (fun (c5 : m 15728875 (o + q) ≠ 32) => ?_) (fun (c5 : ¬ (m 15728875 (o + q) ≠ 32)) => ?_)
              · refine And.intro (fun (c6 : same = 0) => ?_) (fun (c6 : ¬ (same = 0)) => ?_)
                · refine And.intro (show -2147483648 ≤ (o + q) + 1 ∧ (o + q) + 1 < 2147483648 by omega) ?_
                  show cw_R _ _ 13 [vr x_reader_, vr 4194316, vi w, vi az, vi same, vi ((o + q) + 1)] [] (q_m m co hd fi se te re fa (k_pl (m x_reader_bytes_) (m x_reader_ 1) i) (k_en (m x_reader_bytes_) (m x_reader_ 1) (k_pl (m x_reader_bytes_) (m x_reader_ 1) i)) pa op cl sz) _
                  rw [show o + q + 1 = o + (q + 1) by omega]
                  refine ih (q + 1) _ _ (by omega) (by omega) (Or.inr ⟨by omega, ?_⟩)
                  cases hk : k_is (m x_reader_bytes_) (k_pl (m x_reader_bytes_) (m x_reader_ 1) i) (k_en (m x_reader_bytes_) (m x_reader_ 1) (k_pl (m x_reader_bytes_) (m x_reader_ 1) i)) x with
                  | false => rfl
                  | true =>
                    exfalso
                    rcases hI with ⟨h, h2, hI⟩ | ⟨h, hI⟩
                    · have z := k_ist.mp hk; have z2 := z.2 q.toNat (by rcases cq with cq | cq <;> omega); have c2 := ht.1 q.toNat (by rcases cq with cq | cq <;> omega); rw [show o + ((q.toNat : Nat) : Int) = o + q by omega] at c2; rw [show (k_pl (m x_reader_bytes_) (m x_reader_ 1) i) + ((q.toNat : Nat) : Int) = az by omega] at z2; rcases cq with cq | cq <;> omega
                    · rw [hI] at hk; cases hk
                · refine And.intro (fun (c7 : (k_en (m x_reader_bytes_) (m x_reader_ 1) (k_pl (m x_reader_bytes_) (m x_reader_ 1) i)) ≤ az) => ?_) (fun (c7 : ¬ ((k_en (m x_reader_bytes_) (m x_reader_ 1) (k_pl (m x_reader_bytes_) (m x_reader_ 1) i)) ≤ az)) => ?_)
                  · refine And.intro (show -2147483648 ≤ az + 1 ∧ az + 1 < 2147483648 by omega) ?_
                    refine And.intro (show -2147483648 ≤ (o + q) + 1 ∧ (o + q) + 1 < 2147483648 by omega) ?_
                    show cw_R _ _ 13 [vr x_reader_, vr 4194316, vi w, vi (az + 1), vi 0, vi ((o + q) + 1)] [] (q_m m co hd fi se te re fa (k_pl (m x_reader_bytes_) (m x_reader_ 1) i) (k_en (m x_reader_bytes_) (m x_reader_ 1) (k_pl (m x_reader_bytes_) (m x_reader_ 1) i)) pa op cl sz) _
                    rw [show o + q + 1 = o + (q + 1) by omega]
                    refine ih (q + 1) _ _ (by omega) (by omega) (Or.inr ⟨rfl, ?_⟩)
                    cases hk : k_is (m x_reader_bytes_) (k_pl (m x_reader_bytes_) (m x_reader_ 1) i) (k_en (m x_reader_bytes_) (m x_reader_ 1) (k_pl (m x_reader_bytes_) (m x_reader_ 1) i)) x with
                    | false => rfl
                    | true =>
                      exfalso
                      rcases hI with ⟨h, h2, hI⟩ | ⟨h, hI⟩
                      · have z := k_ist.mp hk; have z2 := z.2 q.toNat (by rcases cq with cq | cq <;> omega); have c2 := ht.1 q.toNat (by rcases cq with cq | cq <;> omega); rw [show o + ((q.toNat : Nat) : Int) = o + q by omega] at c2; rw [show (k_pl (m x_reader_bytes_) (m x_reader_ 1) i) + ((q.toNat : Nat) : Int) = az by omega] at z2; rcases cq with cq | cq <;> omega
                      · rw [hI] at hk; cases hk
                  · refine And.intro (show 0 ≤ az ∧ az < 400 by omega) ?_
                    show cw_C _ _ [vr 4194316, vi (o + q)] (q_m m co hd fi se te re fa (k_pl (m x_reader_bytes_) (m x_reader_ 1) i) (k_en (m x_reader_bytes_) (m x_reader_ 1) (k_pl (m x_reader_bytes_) (m x_reader_ 1) i)) pa op cl sz) _
                    refine Js_charAt (B := 15728875) rfl hs1 hs0 rfl (show 0 ≤ o + q ∧ o + q < 3 by omega) (show 0 ≤ m 15728875 (o + q) ∧ m 15728875 (o + q) < 128 by rcases cq with cq | cq <;> omega) ⟨hm, ?_⟩
                    refine And.intro (fun (c8 : m x_reader_bytes_ az ≠ m 15728875 (o + q)) => ?_) (fun (c8 : ¬ (m x_reader_bytes_ az ≠ m 15728875 (o + q))) => ?_)
                    · refine And.intro (show -2147483648 ≤ az + 1 ∧ az + 1 < 2147483648 by omega) ?_
                      refine And.intro (show -2147483648 ≤ (o + q) + 1 ∧ (o + q) + 1 < 2147483648 by omega) ?_
                      show cw_R _ _ 13 [vr x_reader_, vr 4194316, vi w, vi (az + 1), vi 0, vi ((o + q) + 1)] [] (q_m m co hd fi se te re fa (k_pl (m x_reader_bytes_) (m x_reader_ 1) i) (k_en (m x_reader_bytes_) (m x_reader_ 1) (k_pl (m x_reader_bytes_) (m x_reader_ 1) i)) pa op cl sz) _
                      rw [show o + q + 1 = o + (q + 1) by omega]
                      refine ih (q + 1) _ _ (by omega) (by omega) (Or.inr ⟨rfl, ?_⟩)
                      cases hk : k_is (m x_reader_bytes_) (k_pl (m x_reader_bytes_) (m x_reader_ 1) i) (k_en (m x_reader_bytes_) (m x_reader_ 1) (k_pl (m x_reader_bytes_) (m x_reader_ 1) i)) x with
                      | false => rfl
                      | true =>
                        exfalso
                        rcases hI with ⟨h, h2, hI⟩ | ⟨h, hI⟩
                        · have z := k_ist.mp hk; have z2 := z.2 q.toNat (by rcases cq with cq | cq <;> omega); have c2 := ht.1 q.toNat (by rcases cq with cq | cq <;> omega); rw [show o + ((q.toNat : Nat) : Int) = o + q by omega] at c2; rw [show (k_pl (m x_reader_bytes_) (m x_reader_ 1) i) + ((q.toNat : Nat) : Int) = az by omega] at z2; rcases cq with cq | cq <;> omega
                        · rw [hI] at hk; cases hk
                    · refine And.intro (show -2147483648 ≤ az + 1 ∧ az + 1 < 2147483648 by omega) ?_
                      refine And.intro (show -2147483648 ≤ (o + q) + 1 ∧ (o + q) + 1 < 2147483648 by omega) ?_
                      show cw_R _ _ 13 [vr x_reader_, vr 4194316, vi w, vi (az + 1), vi 1, vi ((o + q) + 1)] [] (q_m m co hd fi se te re fa (k_pl (m x_reader_bytes_) (m x_reader_ 1) i) (k_en (m x_reader_bytes_) (m x_reader_ 1) (k_pl (m x_reader_bytes_) (m x_reader_ 1) i)) pa op cl sz) _
                      rw [show o + q + 1 = o + (q + 1) by omega]
                      refine ih (q + 1) _ _ (by omega) (by omega) ?_
                      rcases hI with ⟨h, h2, hI⟩ | ⟨h, hI⟩
                      · refine Or.inl ⟨rfl, by omega, fun q' hq' => ?_⟩
                        by_cases e2 : (q' : Int) = q
                        · have c2 := ht.1 q.toNat (by rcases cq with cq | cq <;> omega); rw [show o + ((q.toNat : Nat) : Int) = o + q by omega] at c2; rw [show q' = q.toNat by omega, show (k_pl (m x_reader_bytes_) (m x_reader_ 1) i) + ((q.toNat : Nat) : Int) = az by omega]; omega
                        · exact hI q' (by omega)
                      · omega
              · refine And.intro (fun (c9 : same = 0) => ?_) (fun (c9 : ¬ (same = 0)) => ?_)
                · refine And.intro (show -2147483648 ≤ w + 1 ∧ w + 1 < 2147483648 by omega) ?_
                  refine And.intro (show -2147483648 ≤ (o + q) + 1 ∧ (o + q) + 1 < 2147483648 by omega) ?_
                  show cw_R _ _ 13 [vr x_reader_, vr 4194316, vi (w + 1), vi (k_pl (m x_reader_bytes_) (m x_reader_ 1) i), vi 1, vi ((o + q) + 1)] [] (q_m m co hd fi se te re fa (k_pl (m x_reader_bytes_) (m x_reader_ 1) i) (k_en (m x_reader_bytes_) (m x_reader_ 1) (k_pl (m x_reader_bytes_) (m x_reader_ 1) i)) pa op cl sz) _
                  have hq : q = (x.length : Int) := by
                    rcases cq with cq | cq <;> omega
                  have hk : k_is (m x_reader_bytes_) (k_pl (m x_reader_bytes_) (m x_reader_ 1) i) (k_en (m x_reader_bytes_) (m x_reader_ 1) (k_pl (m x_reader_bytes_) (m x_reader_ 1) i)) x = false := by
                    cases hk : k_is (m x_reader_bytes_) (k_pl (m x_reader_bytes_) (m x_reader_ 1) i) (k_en (m x_reader_bytes_) (m x_reader_ 1) (k_pl (m x_reader_bytes_) (m x_reader_ 1) i)) x with
                    | false => rfl
                    | true => have z := (k_ist.mp hk).1; rcases hI with ⟨h, h2, hI⟩ | ⟨h, hI⟩
                              · omega
                              · rw [hI] at hk; cases hk
                  have z : k_wi (m x_reader_bytes_) (k_pl (m x_reader_bytes_) (m x_reader_ 1) i) (k_en (m x_reader_bytes_) (m x_reader_ 1) (k_pl (m x_reader_bytes_) (m x_reader_ 1) i)) (x :: t) w = k_wi (m x_reader_bytes_) (k_pl (m x_reader_bytes_) (m x_reader_ 1) i) (k_en (m x_reader_bytes_) (m x_reader_ 1) (k_pl (m x_reader_bytes_) (m x_reader_ 1) i)) t (w + 1) := by show (if k_is (m x_reader_bytes_) (k_pl (m x_reader_bytes_) (m x_reader_ 1) i) (k_en (m x_reader_bytes_) (m x_reader_ 1) (k_pl (m x_reader_bytes_) (m x_reader_ 1) i)) x = true then w else _) = _; rw [if_neg (by rw [hk]; decide)]
                  rw [z] at hQ
                  rw [show o + q + 1 = o + (x.length : Int) + 1 by omega]
                  exact ihw _ _ ht.2.2.2 hQ (by omega)
                · refine And.intro (fun (c10 : az ≠ (k_en (m x_reader_bytes_) (m x_reader_ 1) (k_pl (m x_reader_bytes_) (m x_reader_ 1) i))) => ?_) (fun (c10 : ¬ (az ≠ (k_en (m x_reader_bytes_) (m x_reader_ 1) (k_pl (m x_reader_bytes_) (m x_reader_ 1) i)))) => ?_)
                  · refine And.intro (show -2147483648 ≤ w + 1 ∧ w + 1 < 2147483648 by omega) ?_
                    refine And.intro (show -2147483648 ≤ (o + q) + 1 ∧ (o + q) + 1 < 2147483648 by omega) ?_
                    show cw_R _ _ 13 [vr x_reader_, vr 4194316, vi (w + 1), vi (k_pl (m x_reader_bytes_) (m x_reader_ 1) i), vi 1, vi ((o + q) + 1)] [] (q_m m co hd fi se te re fa (k_pl (m x_reader_bytes_) (m x_reader_ 1) i) (k_en (m x_reader_bytes_) (m x_reader_ 1) (k_pl (m x_reader_bytes_) (m x_reader_ 1) i)) pa op cl sz) _
                    have hq : q = (x.length : Int) := by
                      rcases cq with cq | cq <;> omega
                    have hk : k_is (m x_reader_bytes_) (k_pl (m x_reader_bytes_) (m x_reader_ 1) i) (k_en (m x_reader_bytes_) (m x_reader_ 1) (k_pl (m x_reader_bytes_) (m x_reader_ 1) i)) x = false := by
                      cases hk : k_is (m x_reader_bytes_) (k_pl (m x_reader_bytes_) (m x_reader_ 1) i) (k_en (m x_reader_bytes_) (m x_reader_ 1) (k_pl (m x_reader_bytes_) (m x_reader_ 1) i)) x with
                      | false => rfl
                      | true => have z := (k_ist.mp hk).1; rcases hI with ⟨h, h2, hI⟩ | ⟨h, hI⟩
                                · omega
                                · rw [hI] at hk; cases hk
                    have z : k_wi (m x_reader_bytes_) (k_pl (m x_reader_bytes_) (m x_reader_ 1) i) (k_en (m x_reader_bytes_) (m x_reader_ 1) (k_pl (m x_reader_bytes_) (m x_reader_ 1) i)) (x :: t) w = k_wi (m x_reader_bytes_) (k_pl (m x_reader_bytes_) (m x_reader_ 1) i) (k_en (m x_reader_bytes_) (m x_reader_ 1) (k_pl (m x_reader_bytes_) (m x_reader_ 1) i)) t (w + 1) := by show (if k_is (m x_reader_bytes_) (k_pl (m x_reader_bytes_) (m x_reader_ 1) i) (k_en (m x_reader_bytes_) (m x_reader_ 1) (k_pl (m x_reader_bytes_) (m x_reader_ 1) i)) x = true then w else _) = _; rw [if_neg (by rw [hk]; decide)]
                    rw [z] at hQ
                    rw [show o + q + 1 = o + (x.length : Int) + 1 by omega]
                    exact ihw _ _ ht.2.2.2 hQ (by omega)
                  · show Q (some (vi w)) (q_m m co hd fi se te re fa (k_pl (m x_reader_bytes_) (m x_reader_ 1) i) (k_en (m x_reader_bytes_) (m x_reader_ 1) (k_pl (m x_reader_bytes_) (m x_reader_ 1) i)) pa op cl sz)
                    have hq : q = (x.length : Int) := by
                      rcases cq with cq | cq <;> omega
                    have hk : k_is (m x_reader_bytes_) (k_pl (m x_reader_bytes_) (m x_reader_ 1) i) (k_en (m x_reader_bytes_) (m x_reader_ 1) (k_pl (m x_reader_bytes_) (m x_reader_ 1) i)) x = true := by
                      rcases hI with ⟨h, h2, hI⟩ | ⟨h, hI⟩
                      · exact k_ist.mpr ⟨by omega, fun q' hq' => (hI q' (by omega)).2⟩
                      · omega
                    have z : k_wi (m x_reader_bytes_) (k_pl (m x_reader_bytes_) (m x_reader_ 1) i) (k_en (m x_reader_bytes_) (m x_reader_ 1) (k_pl (m x_reader_bytes_) (m x_reader_ 1) i)) (x :: t) w = w := by show (if k_is (m x_reader_bytes_) (k_pl (m x_reader_bytes_) (m x_reader_ 1) i) (k_en (m x_reader_bytes_) (m x_reader_ 1) (k_pl (m x_reader_bytes_) (m x_reader_ 1) i)) x = true then w else _) = _; rw [if_pos hk]
                    rw [z] at hQ
                    exact hQ
      have z := lw (x.length + 1) 0 (k_pl (m x_reader_bytes_) (m x_reader_ 1) i) 1 (by omega) (by omega) (Or.inl ⟨rfl, by omega, fun q' hq' => by omega⟩)
      rw [show o + 0 = o by omega] at z
      exact z
  refine la_go_C hm 12 [13] ?_
  show cw_R _ _ 13 [vr x_reader_, vr 4194316, vi 0, vi (k_pl (m x_reader_bytes_) (m x_reader_ 1) i), vi 1, vi 0] [] (q_m m co hd fi se te re fa (k_pl (m x_reader_bytes_) (m x_reader_ 1) i) (k_en (m x_reader_bytes_) (m x_reader_ 1) (k_pl (m x_reader_bytes_) (m x_reader_ 1) i)) pa op cl sz) _
  exact main _ 0 0 hstr h (by decide)
theorem Re_wordIn1 {d : Nat} {m : cw_M} {Q : Option cw_V → cw_M → Prop} (hm0 : la_ok m) (hn : 0 ≤ m x_reader_ 1 ∧ m x_reader_ 1 ≤ 400) (hb : ∀ i, 0 ≤ i → i < m x_reader_ 1 → 0 ≤ m x_reader_bytes_ i ∧ m x_reader_bytes_ i ≤ 255) (hs0 : m 5242892 0 = 16777387) (hs1 : m 5242892 1 = 0) (hstr : k_str (m 16777387) 2 0 [[111, 114]]) {co hd fi se te re : Int → Int} {fa st sp pa op cl sz : Int} {i : Nat} (h : Q (some (vi (k_wi (m x_reader_bytes_) (k_pl (m x_reader_bytes_) (m x_reader_ 1) i) (k_en (m x_reader_bytes_) (m x_reader_ 1) (k_pl (m x_reader_bytes_) (m x_reader_ 1) i)) [[111, 114]] 0))) (q_m m co hd fi se te re fa (k_pl (m x_reader_bytes_) (m x_reader_ 1) i) (k_en (m x_reader_bytes_) (m x_reader_ 1) (k_pl (m x_reader_bytes_) (m x_reader_ 1) i)) pa op cl sz)) : cw_C (d + 4) k_Re_wordIn [vr x_reader_, vr 5242892] (q_m m co hd fi se te re fa (k_pl (m x_reader_bytes_) (m x_reader_ 1) i) (k_en (m x_reader_bytes_) (m x_reader_ 1) (k_pl (m x_reader_bytes_) (m x_reader_ 1) i)) pa op cl sz) Q := by
  have hm : la_ok (q_m m co hd fi se te re fa (k_pl (m x_reader_bytes_) (m x_reader_ 1) i) (k_en (m x_reader_bytes_) (m x_reader_ 1) (k_pl (m x_reader_bytes_) (m x_reader_ 1) i)) pa op cl sz) := q_m_ok hm0
  have pr := k_plr (b := (m x_reader_bytes_)) hn.1 i
  have er := Re_enr (b := (m x_reader_bytes_)) hn.1 i
  have main : ∀ (ws : List (List Int)) (o w : Int), k_str (m 16777387) 2 o ws → Q (some (vi (k_wi (m x_reader_bytes_) (k_pl (m x_reader_bytes_) (m x_reader_ 1) i) (k_en (m x_reader_bytes_) (m x_reader_ 1) (k_pl (m x_reader_bytes_) (m x_reader_ 1) i)) ws w))) (q_m m co hd fi se te re fa (k_pl (m x_reader_bytes_) (m x_reader_ 1) i) (k_en (m x_reader_bytes_) (m x_reader_ 1) (k_pl (m x_reader_bytes_) (m x_reader_ 1) i)) pa op cl sz) → (0 ≤ w ∧ w + ws.length < 1000) → cw_R (d + 4) k_Re_wordIn 13 [vr x_reader_, vr 5242892, vi w, vi (k_pl (m x_reader_bytes_) (m x_reader_ 1) i), vi 1, vi o] [] (q_m m co hd fi se te re fa (k_pl (m x_reader_bytes_) (m x_reader_ 1) i) (k_en (m x_reader_bytes_) (m x_reader_ 1) (k_pl (m x_reader_bytes_) (m x_reader_ 1) i)) pa op cl sz) Q := by
    intro ws
    induction ws with
    | nil =>
      intro o w ht hQ hw
      have ht : o = 2 + 1 := ht
      refine la_go_R hm 9 [] ?_
      show cw_C _ _ [vr 5242892] (q_m m co hd fi se te re fa (k_pl (m x_reader_bytes_) (m x_reader_ 1) i) (k_en (m x_reader_bytes_) (m x_reader_ 1) (k_pl (m x_reader_bytes_) (m x_reader_ 1) i)) pa op cl sz) _
      refine Js_length (L := 2) rfl hs1 (by show cw_ln (m 5242892 0) = _; rw [hs0]; rfl) (by decide) (by show 40 ≤ cw_tg (m 5242892 0); rw [hs0]; decide) ⟨hm, ?_⟩
      refine br_t (show 2 < o by omega) ?_
      show Q (some (vi (-1))) (q_m m co hd fi se te re fa (k_pl (m x_reader_bytes_) (m x_reader_ 1) i) (k_en (m x_reader_bytes_) (m x_reader_ 1) (k_pl (m x_reader_bytes_) (m x_reader_ 1) i)) pa op cl sz)
      exact hQ
    | cons x t ihw =>
      intro o w ht hQ hw
      have hwl : w + (x :: t).length = w + 1 + t.length := by rw [List.length_cons]; omega
      have ht : (∀ q : Nat, q < x.length → m 16777387 (o + q) = x.getD q 0 ∧ x.getD q 0 ≠ 32 ∧ 0 ≤ x.getD q 0 ∧ x.getD q 0 < 128) ∧ (o + (x.length : Int) = 2 ∨ (o + (x.length : Int) < 2 ∧ m 16777387 (o + (x.length : Int)) = 32)) ∧ 0 ≤ o ∧ k_str (m 16777387) 2 (o + (x.length : Int) + 1) t := ht
      have ho := ht.2.2.1
      have hxl := ht.2.1
      have lw : ∀ (r : Nat) (q az same : Int), (x.length : Int) < q + r → (0 ≤ q ∧ q ≤ (x.length : Int)) → ((same = 1 ∧ az = (k_pl (m x_reader_bytes_) (m x_reader_ 1) i) + q ∧ ∀ q' : Nat, (q' : Int) < q → (k_pl (m x_reader_bytes_) (m x_reader_ 1) i) + q' < (k_en (m x_reader_bytes_) (m x_reader_ 1) (k_pl (m x_reader_bytes_) (m x_reader_ 1) i)) ∧ m x_reader_bytes_ ((k_pl (m x_reader_bytes_) (m x_reader_ 1) i) + q') = x.getD q' 0) ∨ (same = 0 ∧ k_is (m x_reader_bytes_) (k_pl (m x_reader_bytes_) (m x_reader_ 1) i) (k_en (m x_reader_bytes_) (m x_reader_ 1) (k_pl (m x_reader_bytes_) (m x_reader_ 1) i)) x = false)) → cw_R (d + 4) k_Re_wordIn 13 [vr x_reader_, vr 5242892, vi w, vi az, vi same, vi (o + q)] [] (q_m m co hd fi se te re fa (k_pl (m x_reader_bytes_) (m x_reader_ 1) i) (k_en (m x_reader_bytes_) (m x_reader_ 1) (k_pl (m x_reader_bytes_) (m x_reader_ 1) i)) pa op cl sz) Q := by
        intro r
        induction r with
        | zero =>
          intro q az same hr hq0 hI
          omega
        | succ r ih =>
          intro q az same hr hq0 hI
          have cq : (q = (x.length : Int) ∧ (o + q = 2 ∨ (o + q < 2 ∧ m 16777387 (o + q) = 32))) ∨ (q < (x.length : Int) ∧ o + q < 2 ∧ m 16777387 (o + q) ≠ 32 ∧ 0 ≤ m 16777387 (o + q) ∧ m 16777387 (o + q) < 128) := by
            by_cases z : q = (x.length : Int)
            · left; rw [z]; exact ⟨rfl, ht.2.1⟩
            · right; have c2 := ht.1 q.toNat (by omega); rw [show o + ((q.toNat : Nat) : Int) = o + q by omega] at c2; have c3 := ht.2.1; omega
          have ba : az < (k_en (m x_reader_bytes_) (m x_reader_ 1) (k_pl (m x_reader_bytes_) (m x_reader_ 1) i)) → (k_pl (m x_reader_bytes_) (m x_reader_ 1) i) ≤ az → 0 ≤ m x_reader_bytes_ az ∧ m x_reader_bytes_ az ≤ 255 := fun a c => hb az (by omega) (by omega)
          have hat : same = 1 → (k_pl (m x_reader_bytes_) (m x_reader_ 1) i) ≤ az := fun h => by rcases hI with ⟨-, h2, -⟩ | ⟨h2, -⟩ <;> omega
          have hsm : same = 0 ∨ same = 1 := by rcases hI with ⟨h2, -, -⟩ | ⟨h2, -⟩ <;> omega
          have hat9 : same = 1 → az = (k_pl (m x_reader_bytes_) (m x_reader_ 1) i) + q := fun h => by rcases hI with ⟨-, h2, -⟩ | ⟨h2, -⟩ <;> omega
          refine la_go_R hm 36 [13] ?_
          show cw_C _ _ [vr 5242892] (q_m m co hd fi se te re fa (k_pl (m x_reader_bytes_) (m x_reader_ 1) i) (k_en (m x_reader_bytes_) (m x_reader_ 1) (k_pl (m x_reader_bytes_) (m x_reader_ 1) i)) pa op cl sz) _
          refine Js_length (L := 2) rfl hs1 (by show cw_ln (m 5242892 0) = _; rw [hs0]; rfl) (by decide) (by show 40 ≤ cw_tg (m 5242892 0); rw [hs0]; decide) ⟨hm, ?_⟩
          refine And.intro (fun (c1 : 2 < o + q) => ?_) (fun (c1 : ¬ (2 < o + q)) => ?_)
          · show Q (some (vi (-1))) (q_m m co hd fi se te re fa (k_pl (m x_reader_bytes_) (m x_reader_ 1) i) (k_en (m x_reader_bytes_) (m x_reader_ 1) (k_pl (m x_reader_bytes_) (m x_reader_ 1) i)) pa op cl sz)
            exfalso
            rcases cq with cq | cq <;> omega
          · show cw_C _ _ [vr 5242892] (q_m m co hd fi se te re fa (k_pl (m x_reader_bytes_) (m x_reader_ 1) i) (k_en (m x_reader_bytes_) (m x_reader_ 1) (k_pl (m x_reader_bytes_) (m x_reader_ 1) i)) pa op cl sz) _
            refine Js_length (L := 2) rfl hs1 (by show cw_ln (m 5242892 0) = _; rw [hs0]; rfl) (by decide) (by show 40 ≤ cw_tg (m 5242892 0); rw [hs0]; decide) ⟨hm, ?_⟩
            refine And.intro (fun (c2 : o + q = 2) => ?_) (fun (c2 : ¬ (o + q = 2)) => ?_)
            · refine And.intro (fun (c3 : same = 0) => ?_) (fun (c3 : ¬ (same = 0)) => ?_)
              · refine And.intro (show -2147483648 ≤ w + 1 ∧ w + 1 < 2147483648 by omega) ?_
                refine And.intro (show -2147483648 ≤ (o + q) + 1 ∧ (o + q) + 1 < 2147483648 by omega) ?_
                show cw_R _ _ 13 [vr x_reader_, vr 5242892, vi (w + 1), vi (k_pl (m x_reader_bytes_) (m x_reader_ 1) i), vi 1, vi ((o + q) + 1)] [] (q_m m co hd fi se te re fa (k_pl (m x_reader_bytes_) (m x_reader_ 1) i) (k_en (m x_reader_bytes_) (m x_reader_ 1) (k_pl (m x_reader_bytes_) (m x_reader_ 1) i)) pa op cl sz) _
                have hq : q = (x.length : Int) := by
                  rcases cq with cq | cq <;> omega
                have hk : k_is (m x_reader_bytes_) (k_pl (m x_reader_bytes_) (m x_reader_ 1) i) (k_en (m x_reader_bytes_) (m x_reader_ 1) (k_pl (m x_reader_bytes_) (m x_reader_ 1) i)) x = false := by
                  cases hk : k_is (m x_reader_bytes_) (k_pl (m x_reader_bytes_) (m x_reader_ 1) i) (k_en (m x_reader_bytes_) (m x_reader_ 1) (k_pl (m x_reader_bytes_) (m x_reader_ 1) i)) x with
                  | false => rfl
                  | true => have z := (k_ist.mp hk).1; rcases hI with ⟨h, h2, hI⟩ | ⟨h, hI⟩
                            · omega
                            · rw [hI] at hk; cases hk
                have z : k_wi (m x_reader_bytes_) (k_pl (m x_reader_bytes_) (m x_reader_ 1) i) (k_en (m x_reader_bytes_) (m x_reader_ 1) (k_pl (m x_reader_bytes_) (m x_reader_ 1) i)) (x :: t) w = k_wi (m x_reader_bytes_) (k_pl (m x_reader_bytes_) (m x_reader_ 1) i) (k_en (m x_reader_bytes_) (m x_reader_ 1) (k_pl (m x_reader_bytes_) (m x_reader_ 1) i)) t (w + 1) := by show (if k_is (m x_reader_bytes_) (k_pl (m x_reader_bytes_) (m x_reader_ 1) i) (k_en (m x_reader_bytes_) (m x_reader_ 1) (k_pl (m x_reader_bytes_) (m x_reader_ 1) i)) x = true then w else _) = _; rw [if_neg (by rw [hk]; decide)]
                rw [z] at hQ
                rw [show o + q + 1 = o + (x.length : Int) + 1 by omega]
                exact ihw _ _ ht.2.2.2 hQ (by omega)
              · refine And.intro (fun (c4 : az ≠ (k_en (m x_reader_bytes_) (m x_reader_ 1) (k_pl (m x_reader_bytes_) (m x_reader_ 1) i))) => ?_) (fun (c4 : ¬ (az ≠ (k_en (m x_reader_bytes_) (m x_reader_ 1) (k_pl (m x_reader_bytes_) (m x_reader_ 1) i)))) => ?_)
                · refine And.intro (show -2147483648 ≤ w + 1 ∧ w + 1 < 2147483648 by omega) ?_
                  refine And.intro (show -2147483648 ≤ (o + q) + 1 ∧ (o + q) + 1 < 2147483648 by omega) ?_
                  show cw_R _ _ 13 [vr x_reader_, vr 5242892, vi (w + 1), vi (k_pl (m x_reader_bytes_) (m x_reader_ 1) i), vi 1, vi ((o + q) + 1)] [] (q_m m co hd fi se te re fa (k_pl (m x_reader_bytes_) (m x_reader_ 1) i) (k_en (m x_reader_bytes_) (m x_reader_ 1) (k_pl (m x_reader_bytes_) (m x_reader_ 1) i)) pa op cl sz) _
                  have hq : q = (x.length : Int) := by
                    rcases cq with cq | cq <;> omega
                  have hk : k_is (m x_reader_bytes_) (k_pl (m x_reader_bytes_) (m x_reader_ 1) i) (k_en (m x_reader_bytes_) (m x_reader_ 1) (k_pl (m x_reader_bytes_) (m x_reader_ 1) i)) x = false := by
                    cases hk : k_is (m x_reader_bytes_) (k_pl (m x_reader_bytes_) (m x_reader_ 1) i) (k_en (m x_reader_bytes_) (m x_reader_ 1) (k_pl (m x_reader_bytes_) (m x_reader_ 1) i)) x with
                    | false => rfl
                    | true => have z := (k_ist.mp hk).1; rcases hI with ⟨h, h2, hI⟩ | ⟨h, hI⟩
                              · omega
                              · rw [hI] at hk; cases hk
                  have z : k_wi (m x_reader_bytes_) (k_pl (m x_reader_bytes_) (m x_reader_ 1) i) (k_en (m x_reader_bytes_) (m x_reader_ 1) (k_pl (m x_reader_bytes_) (m x_reader_ 1) i)) (x :: t) w = k_wi (m x_reader_bytes_) (k_pl (m x_reader_bytes_) (m x_reader_ 1) i) (k_en (m x_reader_bytes_) (m x_reader_ 1) (k_pl (m x_reader_bytes_) (m x_reader_ 1) i)) t (w + 1) := by show (if k_is (m x_reader_bytes_) (k_pl (m x_reader_bytes_) (m x_reader_ 1) i) (k_en (m x_reader_bytes_) (m x_reader_ 1) (k_pl (m x_reader_bytes_) (m x_reader_ 1) i)) x = true then w else _) = _; rw [if_neg (by rw [hk]; decide)]
                  rw [z] at hQ
                  rw [show o + q + 1 = o + (x.length : Int) + 1 by omega]
                  exact ihw _ _ ht.2.2.2 hQ (by omega)
                · show Q (some (vi w)) (q_m m co hd fi se te re fa (k_pl (m x_reader_bytes_) (m x_reader_ 1) i) (k_en (m x_reader_bytes_) (m x_reader_ 1) (k_pl (m x_reader_bytes_) (m x_reader_ 1) i)) pa op cl sz)
                  have hq : q = (x.length : Int) := by
                    rcases cq with cq | cq <;> omega
                  have hk : k_is (m x_reader_bytes_) (k_pl (m x_reader_bytes_) (m x_reader_ 1) i) (k_en (m x_reader_bytes_) (m x_reader_ 1) (k_pl (m x_reader_bytes_) (m x_reader_ 1) i)) x = true := by
                    rcases hI with ⟨h, h2, hI⟩ | ⟨h, hI⟩
                    · exact k_ist.mpr ⟨by omega, fun q' hq' => (hI q' (by omega)).2⟩
                    · omega
                  have z : k_wi (m x_reader_bytes_) (k_pl (m x_reader_bytes_) (m x_reader_ 1) i) (k_en (m x_reader_bytes_) (m x_reader_ 1) (k_pl (m x_reader_bytes_) (m x_reader_ 1) i)) (x :: t) w = w := by show (if k_is (m x_reader_bytes_) (k_pl (m x_reader_bytes_) (m x_reader_ 1) i) (k_en (m x_reader_bytes_) (m x_reader_ 1) (k_pl (m x_reader_bytes_) (m x_reader_ 1) i)) x = true then w else _) = _; rw [if_pos hk]
                  rw [z] at hQ
                  exact hQ
            · show cw_C _ _ [vr 5242892, vi (o + q)] (q_m m co hd fi se te re fa (k_pl (m x_reader_bytes_) (m x_reader_ 1) i) (k_en (m x_reader_bytes_) (m x_reader_ 1) (k_pl (m x_reader_bytes_) (m x_reader_ 1) i)) pa op cl sz) _
              refine Js_charAt (B := 16777387) rfl hs1 hs0 rfl (show 0 ≤ o + q ∧ o + q < 2 by omega) (show 0 ≤ m 16777387 (o + q) ∧ m 16777387 (o + q) < 128 by rcases cq with cq | cq <;> omega) ⟨hm, ?_⟩
              refine And.intro (fun (c5 : m 16777387 (o + q) ≠ 32) => ?_) (fun (c5 : ¬ (m 16777387 (o + q) ≠ 32)) => ?_)
              · refine And.intro (fun (c6 : same = 0) => ?_) (fun (c6 : ¬ (same = 0)) => ?_)
                · refine And.intro (show -2147483648 ≤ (o + q) + 1 ∧ (o + q) + 1 < 2147483648 by omega) ?_
                  show cw_R _ _ 13 [vr x_reader_, vr 5242892, vi w, vi az, vi same, vi ((o + q) + 1)] [] (q_m m co hd fi se te re fa (k_pl (m x_reader_bytes_) (m x_reader_ 1) i) (k_en (m x_reader_bytes_) (m x_reader_ 1) (k_pl (m x_reader_bytes_) (m x_reader_ 1) i)) pa op cl sz) _
                  rw [show o + q + 1 = o + (q + 1) by omega]
                  refine ih (q + 1) _ _ (by omega) (by omega) (Or.inr ⟨by omega, ?_⟩)
                  cases hk : k_is (m x_reader_bytes_) (k_pl (m x_reader_bytes_) (m x_reader_ 1) i) (k_en (m x_reader_bytes_) (m x_reader_ 1) (k_pl (m x_reader_bytes_) (m x_reader_ 1) i)) x with
                  | false => rfl
                  | true =>
                    exfalso
                    rcases hI with ⟨h, h2, hI⟩ | ⟨h, hI⟩
                    · have z := k_ist.mp hk; have z2 := z.2 q.toNat (by rcases cq with cq | cq <;> omega); have c2 := ht.1 q.toNat (by rcases cq with cq | cq <;> omega); rw [show o + ((q.toNat : Nat) : Int) = o + q by omega] at c2; rw [show (k_pl (m x_reader_bytes_) (m x_reader_ 1) i) + ((q.toNat : Nat) : Int) = az by omega] at z2; rcases cq with cq | cq <;> omega
                    · rw [hI] at hk; cases hk
                · refine And.intro (fun (c7 : (k_en (m x_reader_bytes_) (m x_reader_ 1) (k_pl (m x_reader_bytes_) (m x_reader_ 1) i)) ≤ az) => ?_) (fun (c7 : ¬ ((k_en (m x_reader_bytes_) (m x_reader_ 1) (k_pl (m x_reader_bytes_) (m x_reader_ 1) i)) ≤ az)) => ?_)
                  · refine And.intro (show -2147483648 ≤ az + 1 ∧ az + 1 < 2147483648 by omega) ?_
                    refine And.intro (show -2147483648 ≤ (o + q) + 1 ∧ (o + q) + 1 < 2147483648 by omega) ?_
                    show cw_R _ _ 13 [vr x_reader_, vr 5242892, vi w, vi (az + 1), vi 0, vi ((o + q) + 1)] [] (q_m m co hd fi se te re fa (k_pl (m x_reader_bytes_) (m x_reader_ 1) i) (k_en (m x_reader_bytes_) (m x_reader_ 1) (k_pl (m x_reader_bytes_) (m x_reader_ 1) i)) pa op cl sz) _
                    rw [show o + q + 1 = o + (q + 1) by omega]
                    refine ih (q + 1) _ _ (by omega) (by omega) (Or.inr ⟨rfl, ?_⟩)
                    cases hk : k_is (m x_reader_bytes_) (k_pl (m x_reader_bytes_) (m x_reader_ 1) i) (k_en (m x_reader_bytes_) (m x_reader_ 1) (k_pl (m x_reader_bytes_) (m x_reader_ 1) i)) x with
                    | false => rfl
                    | true =>
                      exfalso
                      rcases hI with ⟨h, h2, hI⟩ | ⟨h, hI⟩
                      · have z := k_ist.mp hk; have z2 := z.2 q.toNat (by rcases cq with cq | cq <;> omega); have c2 := ht.1 q.toNat (by rcases cq with cq | cq <;> omega); rw [show o + ((q.toNat : Nat) : Int) = o + q by omega] at c2; rw [show (k_pl (m x_reader_bytes_) (m x_reader_ 1) i) + ((q.toNat : Nat) : Int) = az by omega] at z2; rcases cq with cq | cq <;> omega
                      · rw [hI] at hk; cases hk
                  · refine And.intro (show 0 ≤ az ∧ az < 400 by omega) ?_
                    show cw_C _ _ [vr 5242892, vi (o + q)] (q_m m co hd fi se te re fa (k_pl (m x_reader_bytes_) (m x_reader_ 1) i) (k_en (m x_reader_bytes_) (m x_reader_ 1) (k_pl (m x_reader_bytes_) (m x_reader_ 1) i)) pa op cl sz) _
                    refine Js_charAt (B := 16777387) rfl hs1 hs0 rfl (show 0 ≤ o + q ∧ o + q < 2 by omega) (show 0 ≤ m 16777387 (o + q) ∧ m 16777387 (o + q) < 128 by rcases cq with cq | cq <;> omega) ⟨hm, ?_⟩
                    refine And.intro (fun (c8 : m x_reader_bytes_ az ≠ m 16777387 (o + q)) => ?_) (fun (c8 : ¬ (m x_reader_bytes_ az ≠ m 16777387 (o + q))) => ?_)
                    · refine And.intro (show -2147483648 ≤ az + 1 ∧ az + 1 < 2147483648 by omega) ?_
                      refine And.intro (show -2147483648 ≤ (o + q) + 1 ∧ (o + q) + 1 < 2147483648 by omega) ?_
                      show cw_R _ _ 13 [vr x_reader_, vr 5242892, vi w, vi (az + 1), vi 0, vi ((o + q) + 1)] [] (q_m m co hd fi se te re fa (k_pl (m x_reader_bytes_) (m x_reader_ 1) i) (k_en (m x_reader_bytes_) (m x_reader_ 1) (k_pl (m x_reader_bytes_) (m x_reader_ 1) i)) pa op cl sz) _
                      rw [show o + q + 1 = o + (q + 1) by omega]
                      refine ih (q + 1) _ _ (by omega) (by omega) (Or.inr ⟨rfl, ?_⟩)
                      cases hk : k_is (m x_reader_bytes_) (k_pl (m x_reader_bytes_) (m x_reader_ 1) i) (k_en (m x_reader_bytes_) (m x_reader_ 1) (k_pl (m x_reader_bytes_) (m x_reader_ 1) i)) x with
                      | false => rfl
                      | true =>
                        exfalso
                        rcases hI with ⟨h, h2, hI⟩ | ⟨h, hI⟩
                        · have z := k_ist.mp hk; have z2 := z.2 q.toNat (by rcases cq with cq | cq <;> omega); have c2 := ht.1 q.toNat (by rcases cq with cq | cq <;> omega); rw [show o + ((q.toNat : Nat) : Int) = o + q by omega] at c2; rw [show (k_pl (m x_reader_bytes_) (m x_reader_ 1) i) + ((q.toNat : Nat) : Int) = az by omega] at z2; rcases cq with cq | cq <;> omega
                        · rw [hI] at hk; cases hk
                    · refine And.intro (show -2147483648 ≤ az + 1 ∧ az + 1 < 2147483648 by omega) ?_
                      refine And.intro (show -2147483648 ≤ (o + q) + 1 ∧ (o + q) + 1 < 2147483648 by omega) ?_
                      show cw_R _ _ 13 [vr x_reader_, vr 5242892, vi w, vi (az + 1), vi 1, vi ((o + q) + 1)] [] (q_m m co hd fi se te re fa (k_pl (m x_reader_bytes_) (m x_reader_ 1) i) (k_en (m x_reader_bytes_) (m x_reader_ 1) (k_pl (m x_reader_bytes_) (m x_reader_ 1) i)) pa op cl sz) _
                      rw [show o + q + 1 = o + (q + 1) by omega]
                      refine ih (q + 1) _ _ (by omega) (by omega) ?_
                      rcases hI with ⟨h, h2, hI⟩ | ⟨h, hI⟩
                      · refine Or.inl ⟨rfl, by omega, fun q' hq' => ?_⟩
                        by_cases e2 : (q' : Int) = q
                        · have c2 := ht.1 q.toNat (by rcases cq with cq | cq <;> omega); rw [show o + ((q.toNat : Nat) : Int) = o + q by omega] at c2; rw [show q' = q.toNat by omega, show (k_pl (m x_reader_bytes_) (m x_reader_ 1) i) + ((q.toNat : Nat) : Int) = az by omega]; omega
                        · exact hI q' (by omega)
                      · omega
              · refine And.intro (fun (c9 : same = 0) => ?_) (fun (c9 : ¬ (same = 0)) => ?_)
                · refine And.intro (show -2147483648 ≤ w + 1 ∧ w + 1 < 2147483648 by omega) ?_
                  refine And.intro (show -2147483648 ≤ (o + q) + 1 ∧ (o + q) + 1 < 2147483648 by omega) ?_
                  show cw_R _ _ 13 [vr x_reader_, vr 5242892, vi (w + 1), vi (k_pl (m x_reader_bytes_) (m x_reader_ 1) i), vi 1, vi ((o + q) + 1)] [] (q_m m co hd fi se te re fa (k_pl (m x_reader_bytes_) (m x_reader_ 1) i) (k_en (m x_reader_bytes_) (m x_reader_ 1) (k_pl (m x_reader_bytes_) (m x_reader_ 1) i)) pa op cl sz) _
                  have hq : q = (x.length : Int) := by
                    rcases cq with cq | cq <;> omega
                  have hk : k_is (m x_reader_bytes_) (k_pl (m x_reader_bytes_) (m x_reader_ 1) i) (k_en (m x_reader_bytes_) (m x_reader_ 1) (k_pl (m x_reader_bytes_) (m x_reader_ 1) i)) x = false := by
                    cases hk : k_is (m x_reader_bytes_) (k_pl (m x_reader_bytes_) (m x_reader_ 1) i) (k_en (m x_reader_bytes_) (m x_reader_ 1) (k_pl (m x_reader_bytes_) (m x_reader_ 1) i)) x with
                    | false => rfl
                    | true => have z := (k_ist.mp hk).1; rcases hI with ⟨h, h2, hI⟩ | ⟨h, hI⟩
                              · omega
                              · rw [hI] at hk; cases hk
                  have z : k_wi (m x_reader_bytes_) (k_pl (m x_reader_bytes_) (m x_reader_ 1) i) (k_en (m x_reader_bytes_) (m x_reader_ 1) (k_pl (m x_reader_bytes_) (m x_reader_ 1) i)) (x :: t) w = k_wi (m x_reader_bytes_) (k_pl (m x_reader_bytes_) (m x_reader_ 1) i) (k_en (m x_reader_bytes_) (m x_reader_ 1) (k_pl (m x_reader_bytes_) (m x_reader_ 1) i)) t (w + 1) := by show (if k_is (m x_reader_bytes_) (k_pl (m x_reader_bytes_) (m x_reader_ 1) i) (k_en (m x_reader_bytes_) (m x_reader_ 1) (k_pl (m x_reader_bytes_) (m x_reader_ 1) i)) x = true then w else _) = _; rw [if_neg (by rw [hk]; decide)]
                  rw [z] at hQ
                  rw [show o + q + 1 = o + (x.length : Int) + 1 by omega]
                  exact ihw _ _ ht.2.2.2 hQ (by omega)
                · refine And.intro (fun (c10 : az ≠ (k_en (m x_reader_bytes_) (m x_reader_ 1) (k_pl (m x_reader_bytes_) (m x_reader_ 1) i))) => ?_) (fun (c10 : ¬ (az ≠ (k_en (m x_reader_bytes_) (m x_reader_ 1) (k_pl (m x_reader_bytes_) (m x_reader_ 1) i)))) => ?_)
                  · refine And.intro (show -2147483648 ≤ w + 1 ∧ w + 1 < 2147483648 by omega) ?_
                    refine And.intro (show -2147483648 ≤ (o + q) + 1 ∧ (o + q) + 1 < 2147483648 by omega) ?_
                    show cw_R _ _ 13 [vr x_reader_, vr 5242892, vi (w + 1), vi (k_pl (m x_reader_bytes_) (m x_reader_ 1) i), vi 1, vi ((o + q) + 1)] [] (q_m m co hd fi se te re fa (k_pl (m x_reader_bytes_) (m x_reader_ 1) i) (k_en (m x_reader_bytes_) (m x_reader_ 1) (k_pl (m x_reader_bytes_) (m x_reader_ 1) i)) pa op cl sz) _
                    have hq : q = (x.length : Int) := by
                      rcases cq with cq | cq <;> omega
                    have hk : k_is (m x_reader_bytes_) (k_pl (m x_reader_bytes_) (m x_reader_ 1) i) (k_en (m x_reader_bytes_) (m x_reader_ 1) (k_pl (m x_reader_bytes_) (m x_reader_ 1) i)) x = false := by
                      cases hk : k_is (m x_reader_bytes_) (k_pl (m x_reader_bytes_) (m x_reader_ 1) i) (k_en (m x_reader_bytes_) (m x_reader_ 1) (k_pl (m x_reader_bytes_) (m x_reader_ 1) i)) x with
                      | false => rfl
                      | true => have z := (k_ist.mp hk).1; rcases hI with ⟨h, h2, hI⟩ | ⟨h, hI⟩
                                · omega
                                · rw [hI] at hk; cases hk
                    have z : k_wi (m x_reader_bytes_) (k_pl (m x_reader_bytes_) (m x_reader_ 1) i) (k_en (m x_reader_bytes_) (m x_reader_ 1) (k_pl (m x_reader_bytes_) (m x_reader_ 1) i)) (x :: t) w = k_wi (m x_reader_bytes_) (k_pl (m x_reader_bytes_) (m x_reader_ 1) i) (k_en (m x_reader_bytes_) (m x_reader_ 1) (k_pl (m x_reader_bytes_) (m x_reader_ 1) i)) t (w + 1) := by show (if k_is (m x_reader_bytes_) (k_pl (m x_reader_bytes_) (m x_reader_ 1) i) (k_en (m x_reader_bytes_) (m x_reader_ 1) (k_pl (m x_reader_bytes_) (m x_reader_ 1) i)) x = true then w else _) = _; rw [if_neg (by rw [hk]; decide)]
                    rw [z] at hQ
                    rw [show o + q + 1 = o + (x.length : Int) + 1 by omega]
                    exact ihw _ _ ht.2.2.2 hQ (by omega)
                  · show Q (some (vi w)) (q_m m co hd fi se te re fa (k_pl (m x_reader_bytes_) (m x_reader_ 1) i) (k_en (m x_reader_bytes_) (m x_reader_ 1) (k_pl (m x_reader_bytes_) (m x_reader_ 1) i)) pa op cl sz)
                    have hq : q = (x.length : Int) := by
                      rcases cq with cq | cq <;> omega
                    have hk : k_is (m x_reader_bytes_) (k_pl (m x_reader_bytes_) (m x_reader_ 1) i) (k_en (m x_reader_bytes_) (m x_reader_ 1) (k_pl (m x_reader_bytes_) (m x_reader_ 1) i)) x = true := by
                      rcases hI with ⟨h, h2, hI⟩ | ⟨h, hI⟩
                      · exact k_ist.mpr ⟨by omega, fun q' hq' => (hI q' (by omega)).2⟩
                      · omega
                    have z : k_wi (m x_reader_bytes_) (k_pl (m x_reader_bytes_) (m x_reader_ 1) i) (k_en (m x_reader_bytes_) (m x_reader_ 1) (k_pl (m x_reader_bytes_) (m x_reader_ 1) i)) (x :: t) w = w := by show (if k_is (m x_reader_bytes_) (k_pl (m x_reader_bytes_) (m x_reader_ 1) i) (k_en (m x_reader_bytes_) (m x_reader_ 1) (k_pl (m x_reader_bytes_) (m x_reader_ 1) i)) x = true then w else _) = _; rw [if_pos hk]
                    rw [z] at hQ
                    exact hQ
      have z := lw (x.length + 1) 0 (k_pl (m x_reader_bytes_) (m x_reader_ 1) i) 1 (by omega) (by omega) (Or.inl ⟨rfl, by omega, fun q' hq' => by omega⟩)
      rw [show o + 0 = o by omega] at z
      exact z
  refine la_go_C hm 12 [13] ?_
  show cw_R _ _ 13 [vr x_reader_, vr 5242892, vi 0, vi (k_pl (m x_reader_bytes_) (m x_reader_ 1) i), vi 1, vi 0] [] (q_m m co hd fi se te re fa (k_pl (m x_reader_bytes_) (m x_reader_ 1) i) (k_en (m x_reader_bytes_) (m x_reader_ 1) (k_pl (m x_reader_bytes_) (m x_reader_ 1) i)) pa op cl sz) _
  exact main _ 0 0 hstr h (by decide)
theorem Re_wordIn2 {d : Nat} {m : cw_M} {Q : Option cw_V → cw_M → Prop} (hm0 : la_ok m) (hn : 0 ≤ m x_reader_ 1 ∧ m x_reader_ 1 ≤ 400) (hb : ∀ i, 0 ≤ i → i < m x_reader_ 1 → 0 ≤ m x_reader_bytes_ i ∧ m x_reader_bytes_ i ≤ 255) (hs0 : m 6291468 0 = 17825963) (hs1 : m 6291468 1 = 0) (hstr : k_str (m 17825963) 2 0 [[105, 102]]) {co hd fi se te re : Int → Int} {fa st sp pa op cl sz : Int} {i : Nat} (h : Q (some (vi (k_wi (m x_reader_bytes_) (k_pl (m x_reader_bytes_) (m x_reader_ 1) i) (k_en (m x_reader_bytes_) (m x_reader_ 1) (k_pl (m x_reader_bytes_) (m x_reader_ 1) i)) [[105, 102]] 0))) (q_m m co hd fi se te re fa (k_pl (m x_reader_bytes_) (m x_reader_ 1) i) (k_en (m x_reader_bytes_) (m x_reader_ 1) (k_pl (m x_reader_bytes_) (m x_reader_ 1) i)) pa op cl sz)) : cw_C (d + 4) k_Re_wordIn [vr x_reader_, vr 6291468] (q_m m co hd fi se te re fa (k_pl (m x_reader_bytes_) (m x_reader_ 1) i) (k_en (m x_reader_bytes_) (m x_reader_ 1) (k_pl (m x_reader_bytes_) (m x_reader_ 1) i)) pa op cl sz) Q := by
  have hm : la_ok (q_m m co hd fi se te re fa (k_pl (m x_reader_bytes_) (m x_reader_ 1) i) (k_en (m x_reader_bytes_) (m x_reader_ 1) (k_pl (m x_reader_bytes_) (m x_reader_ 1) i)) pa op cl sz) := q_m_ok hm0
  have pr := k_plr (b := (m x_reader_bytes_)) hn.1 i
  have er := Re_enr (b := (m x_reader_bytes_)) hn.1 i
  have main : ∀ (ws : List (List Int)) (o w : Int), k_str (m 17825963) 2 o ws → Q (some (vi (k_wi (m x_reader_bytes_) (k_pl (m x_reader_bytes_) (m x_reader_ 1) i) (k_en (m x_reader_bytes_) (m x_reader_ 1) (k_pl (m x_reader_bytes_) (m x_reader_ 1) i)) ws w))) (q_m m co hd fi se te re fa (k_pl (m x_reader_bytes_) (m x_reader_ 1) i) (k_en (m x_reader_bytes_) (m x_reader_ 1) (k_pl (m x_reader_bytes_) (m x_reader_ 1) i)) pa op cl sz) → (0 ≤ w ∧ w + ws.length < 1000) → cw_R (d + 4) k_Re_wordIn 13 [vr x_reader_, vr 6291468, vi w, vi (k_pl (m x_reader_bytes_) (m x_reader_ 1) i), vi 1, vi o] [] (q_m m co hd fi se te re fa (k_pl (m x_reader_bytes_) (m x_reader_ 1) i) (k_en (m x_reader_bytes_) (m x_reader_ 1) (k_pl (m x_reader_bytes_) (m x_reader_ 1) i)) pa op cl sz) Q := by
    intro ws
    induction ws with
    | nil =>
      intro o w ht hQ hw
      have ht : o = 2 + 1 := ht
      refine la_go_R hm 9 [] ?_
      show cw_C _ _ [vr 6291468] (q_m m co hd fi se te re fa (k_pl (m x_reader_bytes_) (m x_reader_ 1) i) (k_en (m x_reader_bytes_) (m x_reader_ 1) (k_pl (m x_reader_bytes_) (m x_reader_ 1) i)) pa op cl sz) _
      refine Js_length (L := 2) rfl hs1 (by show cw_ln (m 6291468 0) = _; rw [hs0]; rfl) (by decide) (by show 40 ≤ cw_tg (m 6291468 0); rw [hs0]; decide) ⟨hm, ?_⟩
      refine br_t (show 2 < o by omega) ?_
      show Q (some (vi (-1))) (q_m m co hd fi se te re fa (k_pl (m x_reader_bytes_) (m x_reader_ 1) i) (k_en (m x_reader_bytes_) (m x_reader_ 1) (k_pl (m x_reader_bytes_) (m x_reader_ 1) i)) pa op cl sz)
      exact hQ
    | cons x t ihw =>
      intro o w ht hQ hw
      have hwl : w + (x :: t).length = w + 1 + t.length := by rw [List.length_cons]; omega
      have ht : (∀ q : Nat, q < x.length → m 17825963 (o + q) = x.getD q 0 ∧ x.getD q 0 ≠ 32 ∧ 0 ≤ x.getD q 0 ∧ x.getD q 0 < 128) ∧ (o + (x.length : Int) = 2 ∨ (o + (x.length : Int) < 2 ∧ m 17825963 (o + (x.length : Int)) = 32)) ∧ 0 ≤ o ∧ k_str (m 17825963) 2 (o + (x.length : Int) + 1) t := ht
      have ho := ht.2.2.1
      have hxl := ht.2.1
      have lw : ∀ (r : Nat) (q az same : Int), (x.length : Int) < q + r → (0 ≤ q ∧ q ≤ (x.length : Int)) → ((same = 1 ∧ az = (k_pl (m x_reader_bytes_) (m x_reader_ 1) i) + q ∧ ∀ q' : Nat, (q' : Int) < q → (k_pl (m x_reader_bytes_) (m x_reader_ 1) i) + q' < (k_en (m x_reader_bytes_) (m x_reader_ 1) (k_pl (m x_reader_bytes_) (m x_reader_ 1) i)) ∧ m x_reader_bytes_ ((k_pl (m x_reader_bytes_) (m x_reader_ 1) i) + q') = x.getD q' 0) ∨ (same = 0 ∧ k_is (m x_reader_bytes_) (k_pl (m x_reader_bytes_) (m x_reader_ 1) i) (k_en (m x_reader_bytes_) (m x_reader_ 1) (k_pl (m x_reader_bytes_) (m x_reader_ 1) i)) x = false)) → cw_R (d + 4) k_Re_wordIn 13 [vr x_reader_, vr 6291468, vi w, vi az, vi same, vi (o + q)] [] (q_m m co hd fi se te re fa (k_pl (m x_reader_bytes_) (m x_reader_ 1) i) (k_en (m x_reader_bytes_) (m x_reader_ 1) (k_pl (m x_reader_bytes_) (m x_reader_ 1) i)) pa op cl sz) Q := by
        intro r
        induction r with
        | zero =>
          intro q az same hr hq0 hI
          omega
        | succ r ih =>
          intro q az same hr hq0 hI
          have cq : (q = (x.length : Int) ∧ (o + q = 2 ∨ (o + q < 2 ∧ m 17825963 (o + q) = 32))) ∨ (q < (x.length : Int) ∧ o + q < 2 ∧ m 17825963 (o + q) ≠ 32 ∧ 0 ≤ m 17825963 (o + q) ∧ m 17825963 (o + q) < 128) := by
            by_cases z : q = (x.length : Int)
            · left; rw [z]; exact ⟨rfl, ht.2.1⟩
            · right; have c2 := ht.1 q.toNat (by omega); rw [show o + ((q.toNat : Nat) : Int) = o + q by omega] at c2; have c3 := ht.2.1; omega
          have ba : az < (k_en (m x_reader_bytes_) (m x_reader_ 1) (k_pl (m x_reader_bytes_) (m x_reader_ 1) i)) → (k_pl (m x_reader_bytes_) (m x_reader_ 1) i) ≤ az → 0 ≤ m x_reader_bytes_ az ∧ m x_reader_bytes_ az ≤ 255 := fun a c => hb az (by omega) (by omega)
          have hat : same = 1 → (k_pl (m x_reader_bytes_) (m x_reader_ 1) i) ≤ az := fun h => by rcases hI with ⟨-, h2, -⟩ | ⟨h2, -⟩ <;> omega
          have hsm : same = 0 ∨ same = 1 := by rcases hI with ⟨h2, -, -⟩ | ⟨h2, -⟩ <;> omega
          have hat9 : same = 1 → az = (k_pl (m x_reader_bytes_) (m x_reader_ 1) i) + q := fun h => by rcases hI with ⟨-, h2, -⟩ | ⟨h2, -⟩ <;> omega
          refine la_go_R hm 36 [13] ?_
          show cw_C _ _ [vr 6291468] (q_m m co hd fi se te re fa (k_pl (m x_reader_bytes_) (m x_reader_ 1) i) (k_en (m x_reader_bytes_) (m x_reader_ 1) (k_pl (m x_reader_bytes_) (m x_reader_ 1) i)) pa op cl sz) _
          refine Js_length (L := 2) rfl hs1 (by show cw_ln (m 6291468 0) = _; rw [hs0]; rfl) (by decide) (by show 40 ≤ cw_tg (m 6291468 0); rw [hs0]; decide) ⟨hm, ?_⟩
          refine And.intro (fun (c1 : 2 < o + q) => ?_) (fun (c1 : ¬ (2 < o + q)) => ?_)
          · show Q (some (vi (-1))) (q_m m co hd fi se te re fa (k_pl (m x_reader_bytes_) (m x_reader_ 1) i) (k_en (m x_reader_bytes_) (m x_reader_ 1) (k_pl (m x_reader_bytes_) (m x_reader_ 1) i)) pa op cl sz)
            exfalso
            rcases cq with cq | cq <;> omega
          · show cw_C _ _ [vr 6291468] (q_m m co hd fi se te re fa (k_pl (m x_reader_bytes_) (m x_reader_ 1) i) (k_en (m x_reader_bytes_) (m x_reader_ 1) (k_pl (m x_reader_bytes_) (m x_reader_ 1) i)) pa op cl sz) _
            refine Js_length (L := 2) rfl hs1 (by show cw_ln (m 6291468 0) = _; rw [hs0]; rfl) (by decide) (by show 40 ≤ cw_tg (m 6291468 0); rw [hs0]; decide) ⟨hm, ?_⟩
            refine And.intro (fun (c2 : o + q = 2) => ?_) (fun (c2 : ¬ (o + q = 2)) => ?_)
            · refine And.intro (fun (c3 : same = 0) => ?_) (fun (c3 : ¬ (same = 0)) => ?_)
              · refine And.intro (show -2147483648 ≤ w + 1 ∧ w + 1 < 2147483648 by omega) ?_
                refine And.intro (show -2147483648 ≤ (o + q) + 1 ∧ (o + q) + 1 < 2147483648 by omega) ?_
                show cw_R _ _ 13 [vr x_reader_, vr 6291468, vi (w + 1), vi (k_pl (m x_reader_bytes_) (m x_reader_ 1) i), vi 1, vi ((o + q) + 1)] [] (q_m m co hd fi se te re fa (k_pl (m x_reader_bytes_) (m x_reader_ 1) i) (k_en (m x_reader_bytes_) (m x_reader_ 1) (k_pl (m x_reader_bytes_) (m x_reader_ 1) i)) pa op cl sz) _
                have hq : q = (x.length : Int) := by
                  rcases cq with cq | cq <;> omega
                have hk : k_is (m x_reader_bytes_) (k_pl (m x_reader_bytes_) (m x_reader_ 1) i) (k_en (m x_reader_bytes_) (m x_reader_ 1) (k_pl (m x_reader_bytes_) (m x_reader_ 1) i)) x = false := by
                  cases hk : k_is (m x_reader_bytes_) (k_pl (m x_reader_bytes_) (m x_reader_ 1) i) (k_en (m x_reader_bytes_) (m x_reader_ 1) (k_pl (m x_reader_bytes_) (m x_reader_ 1) i)) x with
                  | false => rfl
                  | true => have z := (k_ist.mp hk).1; rcases hI with ⟨h, h2, hI⟩ | ⟨h, hI⟩
                            · omega
                            · rw [hI] at hk; cases hk
                have z : k_wi (m x_reader_bytes_) (k_pl (m x_reader_bytes_) (m x_reader_ 1) i) (k_en (m x_reader_bytes_) (m x_reader_ 1) (k_pl (m x_reader_bytes_) (m x_reader_ 1) i)) (x :: t) w = k_wi (m x_reader_bytes_) (k_pl (m x_reader_bytes_) (m x_reader_ 1) i) (k_en (m x_reader_bytes_) (m x_reader_ 1) (k_pl (m x_reader_bytes_) (m x_reader_ 1) i)) t (w + 1) := by show (if k_is (m x_reader_bytes_) (k_pl (m x_reader_bytes_) (m x_reader_ 1) i) (k_en (m x_reader_bytes_) (m x_reader_ 1) (k_pl (m x_reader_bytes_) (m x_reader_ 1) i)) x = true then w else _) = _; rw [if_neg (by rw [hk]; decide)]
                rw [z] at hQ
                rw [show o + q + 1 = o + (x.length : Int) + 1 by omega]
                exact ihw _ _ ht.2.2.2 hQ (by omega)
              · refine And.intro (fun (c4 : az ≠ (k_en (m x_reader_bytes_) (m x_reader_ 1) (k_pl (m x_reader_bytes_) (m x_reader_ 1) i))) => ?_) (fun (c4 : ¬ (az ≠ (k_en (m x_reader_bytes_) (m x_reader_ 1) (k_pl (m x_reader_bytes_) (m x_reader_ 1) i)))) => ?_)
                · refine And.intro (show -2147483648 ≤ w + 1 ∧ w + 1 < 2147483648 by omega) ?_
                  refine And.intro (show -2147483648 ≤ (o + q) + 1 ∧ (o + q) + 1 < 2147483648 by omega) ?_
                  show cw_R _ _ 13 [vr x_reader_, vr 6291468, vi (w + 1), vi (k_pl (m x_reader_bytes_) (m x_reader_ 1) i), vi 1, vi ((o + q) + 1)] [] (q_m m co hd fi se te re fa (k_pl (m x_reader_bytes_) (m x_reader_ 1) i) (k_en (m x_reader_bytes_) (m x_reader_ 1) (k_pl (m x_reader_bytes_) (m x_reader_ 1) i)) pa op cl sz) _
                  have hq : q = (x.length : Int) := by
                    rcases cq with cq | cq <;> omega
                  have hk : k_is (m x_reader_bytes_) (k_pl (m x_reader_bytes_) (m x_reader_ 1) i) (k_en (m x_reader_bytes_) (m x_reader_ 1) (k_pl (m x_reader_bytes_) (m x_reader_ 1) i)) x = false := by
                    cases hk : k_is (m x_reader_bytes_) (k_pl (m x_reader_bytes_) (m x_reader_ 1) i) (k_en (m x_reader_bytes_) (m x_reader_ 1) (k_pl (m x_reader_bytes_) (m x_reader_ 1) i)) x with
                    | false => rfl
                    | true => have z := (k_ist.mp hk).1; rcases hI with ⟨h, h2, hI⟩ | ⟨h, hI⟩
                              · omega
                              · rw [hI] at hk; cases hk
                  have z : k_wi (m x_reader_bytes_) (k_pl (m x_reader_bytes_) (m x_reader_ 1) i) (k_en (m x_reader_bytes_) (m x_reader_ 1) (k_pl (m x_reader_bytes_) (m x_reader_ 1) i)) (x :: t) w = k_wi (m x_reader_bytes_) (k_pl (m x_reader_bytes_) (m x_reader_ 1) i) (k_en (m x_reader_bytes_) (m x_reader_ 1) (k_pl (m x_reader_bytes_) (m x_reader_ 1) i)) t (w + 1) := by show (if k_is (m x_reader_bytes_) (k_pl (m x_reader_bytes_) (m x_reader_ 1) i) (k_en (m x_reader_bytes_) (m x_reader_ 1) (k_pl (m x_reader_bytes_) (m x_reader_ 1) i)) x = true then w else _) = _; rw [if_neg (by rw [hk]; decide)]
                  rw [z] at hQ
                  rw [show o + q + 1 = o + (x.length : Int) + 1 by omega]
                  exact ihw _ _ ht.2.2.2 hQ (by omega)
                · show Q (some (vi w)) (q_m m co hd fi se te re fa (k_pl (m x_reader_bytes_) (m x_reader_ 1) i) (k_en (m x_reader_bytes_) (m x_reader_ 1) (k_pl (m x_reader_bytes_) (m x_reader_ 1) i)) pa op cl sz)
                  have hq : q = (x.length : Int) := by
                    rcases cq with cq | cq <;> omega
                  have hk : k_is (m x_reader_bytes_) (k_pl (m x_reader_bytes_) (m x_reader_ 1) i) (k_en (m x_reader_bytes_) (m x_reader_ 1) (k_pl (m x_reader_bytes_) (m x_reader_ 1) i)) x = true := by
                    rcases hI with ⟨h, h2, hI⟩ | ⟨h, hI⟩
                    · exact k_ist.mpr ⟨by omega, fun q' hq' => (hI q' (by omega)).2⟩
                    · omega
                  have z : k_wi (m x_reader_bytes_) (k_pl (m x_reader_bytes_) (m x_reader_ 1) i) (k_en (m x_reader_bytes_) (m x_reader_ 1) (k_pl (m x_reader_bytes_) (m x_reader_ 1) i)) (x :: t) w = w := by show (if k_is (m x_reader_bytes_) (k_pl (m x_reader_bytes_) (m x_reader_ 1) i) (k_en (m x_reader_bytes_) (m x_reader_ 1) (k_pl (m x_reader_bytes_) (m x_reader_ 1) i)) x = true then w else _) = _; rw [if_pos hk]
                  rw [z] at hQ
                  exact hQ
            · show cw_C _ _ [vr 6291468, vi (o + q)] (q_m m co hd fi se te re fa (k_pl (m x_reader_bytes_) (m x_reader_ 1) i) (k_en (m x_reader_bytes_) (m x_reader_ 1) (k_pl (m x_reader_bytes_) (m x_reader_ 1) i)) pa op cl sz) _
              refine Js_charAt (B := 17825963) rfl hs1 hs0 rfl (show 0 ≤ o + q ∧ o + q < 2 by omega) (show 0 ≤ m 17825963 (o + q) ∧ m 17825963 (o + q) < 128 by rcases cq with cq | cq <;> omega) ⟨hm, ?_⟩
              refine And.intro (fun (c5 : m 17825963 (o + q) ≠ 32) => ?_) (fun (c5 : ¬ (m 17825963 (o + q) ≠ 32)) => ?_)
              · refine And.intro (fun (c6 : same = 0) => ?_) (fun (c6 : ¬ (same = 0)) => ?_)
                · refine And.intro (show -2147483648 ≤ (o + q) + 1 ∧ (o + q) + 1 < 2147483648 by omega) ?_
                  show cw_R _ _ 13 [vr x_reader_, vr 6291468, vi w, vi az, vi same, vi ((o + q) + 1)] [] (q_m m co hd fi se te re fa (k_pl (m x_reader_bytes_) (m x_reader_ 1) i) (k_en (m x_reader_bytes_) (m x_reader_ 1) (k_pl (m x_reader_bytes_) (m x_reader_ 1) i)) pa op cl sz) _
                  rw [show o + q + 1 = o + (q + 1) by omega]
                  refine ih (q + 1) _ _ (by omega) (by omega) (Or.inr ⟨by omega, ?_⟩)
                  cases hk : k_is (m x_reader_bytes_) (k_pl (m x_reader_bytes_) (m x_reader_ 1) i) (k_en (m x_reader_bytes_) (m x_reader_ 1) (k_pl (m x_reader_bytes_) (m x_reader_ 1) i)) x with
                  | false => rfl
                  | true =>
                    exfalso
                    rcases hI with ⟨h, h2, hI⟩ | ⟨h, hI⟩
                    · have z := k_ist.mp hk; have z2 := z.2 q.toNat (by rcases cq with cq | cq <;> omega); have c2 := ht.1 q.toNat (by rcases cq with cq | cq <;> omega); rw [show o + ((q.toNat : Nat) : Int) = o + q by omega] at c2; rw [show (k_pl (m x_reader_bytes_) (m x_reader_ 1) i) + ((q.toNat : Nat) : Int) = az by omega] at z2; rcases cq with cq | cq <;> omega
                    · rw [hI] at hk; cases hk
                · refine And.intro (fun (c7 : (k_en (m x_reader_bytes_) (m x_reader_ 1) (k_pl (m x_reader_bytes_) (m x_reader_ 1) i)) ≤ az) => ?_) (fun (c7 : ¬ ((k_en (m x_reader_bytes_) (m x_reader_ 1) (k_pl (m x_reader_bytes_) (m x_reader_ 1) i)) ≤ az)) => ?_)
                  · refine And.intro (show -2147483648 ≤ az + 1 ∧ az + 1 < 2147483648 by omega) ?_
                    refine And.intro (show -2147483648 ≤ (o + q) + 1 ∧ (o + q) + 1 < 2147483648 by omega) ?_
                    show cw_R _ _ 13 [vr x_reader_, vr 6291468, vi w, vi (az + 1), vi 0, vi ((o + q) + 1)] [] (q_m m co hd fi se te re fa (k_pl (m x_reader_bytes_) (m x_reader_ 1) i) (k_en (m x_reader_bytes_) (m x_reader_ 1) (k_pl (m x_reader_bytes_) (m x_reader_ 1) i)) pa op cl sz) _
                    rw [show o + q + 1 = o + (q + 1) by omega]
                    refine ih (q + 1) _ _ (by omega) (by omega) (Or.inr ⟨rfl, ?_⟩)
                    cases hk : k_is (m x_reader_bytes_) (k_pl (m x_reader_bytes_) (m x_reader_ 1) i) (k_en (m x_reader_bytes_) (m x_reader_ 1) (k_pl (m x_reader_bytes_) (m x_reader_ 1) i)) x with
                    | false => rfl
                    | true =>
                      exfalso
                      rcases hI with ⟨h, h2, hI⟩ | ⟨h, hI⟩
                      · have z := k_ist.mp hk; have z2 := z.2 q.toNat (by rcases cq with cq | cq <;> omega); have c2 := ht.1 q.toNat (by rcases cq with cq | cq <;> omega); rw [show o + ((q.toNat : Nat) : Int) = o + q by omega] at c2; rw [show (k_pl (m x_reader_bytes_) (m x_reader_ 1) i) + ((q.toNat : Nat) : Int) = az by omega] at z2; rcases cq with cq | cq <;> omega
                      · rw [hI] at hk; cases hk
                  · refine And.intro (show 0 ≤ az ∧ az < 400 by omega) ?_
                    show cw_C _ _ [vr 6291468, vi (o + q)] (q_m m co hd fi se te re fa (k_pl (m x_reader_bytes_) (m x_reader_ 1) i) (k_en (m x_reader_bytes_) (m x_reader_ 1) (k_pl (m x_reader_bytes_) (m x_reader_ 1) i)) pa op cl sz) _
                    refine Js_charAt (B := 17825963) rfl hs1 hs0 rfl (show 0 ≤ o + q ∧ o + q < 2 by omega) (show 0 ≤ m 17825963 (o + q) ∧ m 17825963 (o + q) < 128 by rcases cq with cq | cq <;> omega) ⟨hm, ?_⟩
                    refine And.intro (fun (c8 : m x_reader_bytes_ az ≠ m 17825963 (o + q)) => ?_) (fun (c8 : ¬ (m x_reader_bytes_ az ≠ m 17825963 (o + q))) => ?_)
                    · refine And.intro (show -2147483648 ≤ az + 1 ∧ az + 1 < 2147483648 by omega) ?_
                      refine And.intro (show -2147483648 ≤ (o + q) + 1 ∧ (o + q) + 1 < 2147483648 by omega) ?_
                      show cw_R _ _ 13 [vr x_reader_, vr 6291468, vi w, vi (az + 1), vi 0, vi ((o + q) + 1)] [] (q_m m co hd fi se te re fa (k_pl (m x_reader_bytes_) (m x_reader_ 1) i) (k_en (m x_reader_bytes_) (m x_reader_ 1) (k_pl (m x_reader_bytes_) (m x_reader_ 1) i)) pa op cl sz) _
                      rw [show o + q + 1 = o + (q + 1) by omega]
                      refine ih (q + 1) _ _ (by omega) (by omega) (Or.inr ⟨rfl, ?_⟩)
                      cases hk : k_is (m x_reader_bytes_) (k_pl (m x_reader_bytes_) (m x_reader_ 1) i) (k_en (m x_reader_bytes_) (m x_reader_ 1) (k_pl (m x_reader_bytes_) (m x_reader_ 1) i)) x with
                      | false => rfl
                      | true =>
                        exfalso
                        rcases hI with ⟨h, h2, hI⟩ | ⟨h, hI⟩
                        · have z := k_ist.mp hk; have z2 := z.2 q.toNat (by rcases cq with cq | cq <;> omega); have c2 := ht.1 q.toNat (by rcases cq with cq | cq <;> omega); rw [show o + ((q.toNat : Nat) : Int) = o + q by omega] at c2; rw [show (k_pl (m x_reader_bytes_) (m x_reader_ 1) i) + ((q.toNat : Nat) : Int) = az by omega] at z2; rcases cq with cq | cq <;> omega
                        · rw [hI] at hk; cases hk
                    · refine And.intro (show -2147483648 ≤ az + 1 ∧ az + 1 < 2147483648 by omega) ?_
                      refine And.intro (show -2147483648 ≤ (o + q) + 1 ∧ (o + q) + 1 < 2147483648 by omega) ?_
                      show cw_R _ _ 13 [vr x_reader_, vr 6291468, vi w, vi (az + 1), vi 1, vi ((o + q) + 1)] [] (q_m m co hd fi se te re fa (k_pl (m x_reader_bytes_) (m x_reader_ 1) i) (k_en (m x_reader_bytes_) (m x_reader_ 1) (k_pl (m x_reader_bytes_) (m x_reader_ 1) i)) pa op cl sz) _
                      rw [show o + q + 1 = o + (q + 1) by omega]
                      refine ih (q + 1) _ _ (by omega) (by omega) ?_
                      rcases hI with ⟨h, h2, hI⟩ | ⟨h, hI⟩
                      · refine Or.inl ⟨rfl, by omega, fun q' hq' => ?_⟩
                        by_cases e2 : (q' : Int) = q
                        · have c2 := ht.1 q.toNat (by rcases cq with cq | cq <;> omega); rw [show o + ((q.toNat : Nat) : Int) = o + q by omega] at c2; rw [show q' = q.toNat by omega, show (k_pl (m x_reader_bytes_) (m x_reader_ 1) i) + ((q.toNat : Nat) : Int) = az by omega]; omega
                        · exact hI q' (by omega)
                      · omega
              · refine And.intro (fun (c9 : same = 0) => ?_) (fun (c9 : ¬ (same = 0)) => ?_)
                · refine And.intro (show -2147483648 ≤ w + 1 ∧ w + 1 < 2147483648 by omega) ?_
                  refine And.intro (show -2147483648 ≤ (o + q) + 1 ∧ (o + q) + 1 < 2147483648 by omega) ?_
                  show cw_R _ _ 13 [vr x_reader_, vr 6291468, vi (w + 1), vi (k_pl (m x_reader_bytes_) (m x_reader_ 1) i), vi 1, vi ((o + q) + 1)] [] (q_m m co hd fi se te re fa (k_pl (m x_reader_bytes_) (m x_reader_ 1) i) (k_en (m x_reader_bytes_) (m x_reader_ 1) (k_pl (m x_reader_bytes_) (m x_reader_ 1) i)) pa op cl sz) _
                  have hq : q = (x.length : Int) := by
                    rcases cq with cq | cq <;> omega
                  have hk : k_is (m x_reader_bytes_) (k_pl (m x_reader_bytes_) (m x_reader_ 1) i) (k_en (m x_reader_bytes_) (m x_reader_ 1) (k_pl (m x_reader_bytes_) (m x_reader_ 1) i)) x = false := by
                    cases hk : k_is (m x_reader_bytes_) (k_pl (m x_reader_bytes_) (m x_reader_ 1) i) (k_en (m x_reader_bytes_) (m x_reader_ 1) (k_pl (m x_reader_bytes_) (m x_reader_ 1) i)) x with
                    | false => rfl
                    | true => have z := (k_ist.mp hk).1; rcases hI with ⟨h, h2, hI⟩ | ⟨h, hI⟩
                              · omega
                              · rw [hI] at hk; cases hk
                  have z : k_wi (m x_reader_bytes_) (k_pl (m x_reader_bytes_) (m x_reader_ 1) i) (k_en (m x_reader_bytes_) (m x_reader_ 1) (k_pl (m x_reader_bytes_) (m x_reader_ 1) i)) (x :: t) w = k_wi (m x_reader_bytes_) (k_pl (m x_reader_bytes_) (m x_reader_ 1) i) (k_en (m x_reader_bytes_) (m x_reader_ 1) (k_pl (m x_reader_bytes_) (m x_reader_ 1) i)) t (w + 1) := by show (if k_is (m x_reader_bytes_) (k_pl (m x_reader_bytes_) (m x_reader_ 1) i) (k_en (m x_reader_bytes_) (m x_reader_ 1) (k_pl (m x_reader_bytes_) (m x_reader_ 1) i)) x = true then w else _) = _; rw [if_neg (by rw [hk]; decide)]
                  rw [z] at hQ
                  rw [show o + q + 1 = o + (x.length : Int) + 1 by omega]
                  exact ihw _ _ ht.2.2.2 hQ (by omega)
                · refine And.intro (fun (c10 : az ≠ (k_en (m x_reader_bytes_) (m x_reader_ 1) (k_pl (m x_reader_bytes_) (m x_reader_ 1) i))) => ?_) (fun (c10 : ¬ (az ≠ (k_en (m x_reader_bytes_) (m x_reader_ 1) (k_pl (m x_reader_bytes_) (m x_reader_ 1) i)))) => ?_)
                  · refine And.intro (show -2147483648 ≤ w + 1 ∧ w + 1 < 2147483648 by omega) ?_
                    refine And.intro (show -2147483648 ≤ (o + q) + 1 ∧ (o + q) + 1 < 2147483648 by omega) ?_
                    show cw_R _ _ 13 [vr x_reader_, vr 6291468, vi (w + 1), vi (k_pl (m x_reader_bytes_) (m x_reader_ 1) i), vi 1, vi ((o + q) + 1)] [] (q_m m co hd fi se te re fa (k_pl (m x_reader_bytes_) (m x_reader_ 1) i) (k_en (m x_reader_bytes_) (m x_reader_ 1) (k_pl (m x_reader_bytes_) (m x_reader_ 1) i)) pa op cl sz) _
                    have hq : q = (x.length : Int) := by
                      rcases cq with cq | cq <;> omega
                    have hk : k_is (m x_reader_bytes_) (k_pl (m x_reader_bytes_) (m x_reader_ 1) i) (k_en (m x_reader_bytes_) (m x_reader_ 1) (k_pl (m x_reader_bytes_) (m x_reader_ 1) i)) x = false := by
                      cases hk : k_is (m x_reader_bytes_) (k_pl (m x_reader_bytes_) (m x_reader_ 1) i) (k_en (m x_reader_bytes_) (m x_reader_ 1) (k_pl (m x_reader_bytes_) (m x_reader_ 1) i)) x with
                      | false => rfl
                      | true => have z := (k_ist.mp hk).1; rcases hI with ⟨h, h2, hI⟩ | ⟨h, hI⟩
                                · omega
                                · rw [hI] at hk; cases hk
                    have z : k_wi (m x_reader_bytes_) (k_pl (m x_reader_bytes_) (m x_reader_ 1) i) (k_en (m x_reader_bytes_) (m x_reader_ 1) (k_pl (m x_reader_bytes_) (m x_reader_ 1) i)) (x :: t) w = k_wi (m x_reader_bytes_) (k_pl (m x_reader_bytes_) (m x_reader_ 1) i) (k_en (m x_reader_bytes_) (m x_reader_ 1) (k_pl (m x_reader_bytes_) (m x_reader_ 1) i)) t (w + 1) := by show (if k_is (m x_reader_bytes_) (k_pl (m x_reader_bytes_) (m x_reader_ 1) i) (k_en (m x_reader_bytes_) (m x_reader_ 1) (k_pl (m x_reader_bytes_) (m x_reader_ 1) i)) x = true then w else _) = _; rw [if_neg (by rw [hk]; decide)]
                    rw [z] at hQ
                    rw [show o + q + 1 = o + (x.length : Int) + 1 by omega]
                    exact ihw _ _ ht.2.2.2 hQ (by omega)
                  · show Q (some (vi w)) (q_m m co hd fi se te re fa (k_pl (m x_reader_bytes_) (m x_reader_ 1) i) (k_en (m x_reader_bytes_) (m x_reader_ 1) (k_pl (m x_reader_bytes_) (m x_reader_ 1) i)) pa op cl sz)
                    have hq : q = (x.length : Int) := by
                      rcases cq with cq | cq <;> omega
                    have hk : k_is (m x_reader_bytes_) (k_pl (m x_reader_bytes_) (m x_reader_ 1) i) (k_en (m x_reader_bytes_) (m x_reader_ 1) (k_pl (m x_reader_bytes_) (m x_reader_ 1) i)) x = true := by
                      rcases hI with ⟨h, h2, hI⟩ | ⟨h, hI⟩
                      · exact k_ist.mpr ⟨by omega, fun q' hq' => (hI q' (by omega)).2⟩
                      · omega
                    have z : k_wi (m x_reader_bytes_) (k_pl (m x_reader_bytes_) (m x_reader_ 1) i) (k_en (m x_reader_bytes_) (m x_reader_ 1) (k_pl (m x_reader_bytes_) (m x_reader_ 1) i)) (x :: t) w = w := by show (if k_is (m x_reader_bytes_) (k_pl (m x_reader_bytes_) (m x_reader_ 1) i) (k_en (m x_reader_bytes_) (m x_reader_ 1) (k_pl (m x_reader_bytes_) (m x_reader_ 1) i)) x = true then w else _) = _; rw [if_pos hk]
                    rw [z] at hQ
                    exact hQ
      have z := lw (x.length + 1) 0 (k_pl (m x_reader_bytes_) (m x_reader_ 1) i) 1 (by omega) (by omega) (Or.inl ⟨rfl, by omega, fun q' hq' => by omega⟩)
      rw [show o + 0 = o by omega] at z
      exact z
  refine la_go_C hm 12 [13] ?_
  show cw_R _ _ 13 [vr x_reader_, vr 6291468, vi 0, vi (k_pl (m x_reader_bytes_) (m x_reader_ 1) i), vi 1, vi 0] [] (q_m m co hd fi se te re fa (k_pl (m x_reader_bytes_) (m x_reader_ 1) i) (k_en (m x_reader_bytes_) (m x_reader_ 1) (k_pl (m x_reader_bytes_) (m x_reader_ 1) i)) pa op cl sz) _
  exact main _ 0 0 hstr h (by decide)
theorem Re_wordIn3 {d : Nat} {m : cw_M} {Q : Option cw_V → cw_M → Prop} (hm0 : la_ok m) (hn : 0 ≤ m x_reader_ 1 ∧ m x_reader_ 1 ≤ 400) (hb : ∀ i, 0 ≤ i → i < m x_reader_ 1 → 0 ≤ m x_reader_bytes_ i ∧ m x_reader_bytes_ i ≤ 255) (hs0 : m 7340044 0 = 18874539) (hs1 : m 7340044 1 = 0) (hstr : k_str (m 18874539) 2 0 [[97, 115]]) {co hd fi se te re : Int → Int} {fa st sp pa op cl sz : Int} {i : Nat} (h : Q (some (vi (k_wi (m x_reader_bytes_) (k_pl (m x_reader_bytes_) (m x_reader_ 1) i) (k_en (m x_reader_bytes_) (m x_reader_ 1) (k_pl (m x_reader_bytes_) (m x_reader_ 1) i)) [[97, 115]] 0))) (q_m m co hd fi se te re fa (k_pl (m x_reader_bytes_) (m x_reader_ 1) i) (k_en (m x_reader_bytes_) (m x_reader_ 1) (k_pl (m x_reader_bytes_) (m x_reader_ 1) i)) pa op cl sz)) : cw_C (d + 4) k_Re_wordIn [vr x_reader_, vr 7340044] (q_m m co hd fi se te re fa (k_pl (m x_reader_bytes_) (m x_reader_ 1) i) (k_en (m x_reader_bytes_) (m x_reader_ 1) (k_pl (m x_reader_bytes_) (m x_reader_ 1) i)) pa op cl sz) Q := by
  have hm : la_ok (q_m m co hd fi se te re fa (k_pl (m x_reader_bytes_) (m x_reader_ 1) i) (k_en (m x_reader_bytes_) (m x_reader_ 1) (k_pl (m x_reader_bytes_) (m x_reader_ 1) i)) pa op cl sz) := q_m_ok hm0
  have pr := k_plr (b := (m x_reader_bytes_)) hn.1 i
  have er := Re_enr (b := (m x_reader_bytes_)) hn.1 i
  have main : ∀ (ws : List (List Int)) (o w : Int), k_str (m 18874539) 2 o ws → Q (some (vi (k_wi (m x_reader_bytes_) (k_pl (m x_reader_bytes_) (m x_reader_ 1) i) (k_en (m x_reader_bytes_) (m x_reader_ 1) (k_pl (m x_reader_bytes_) (m x_reader_ 1) i)) ws w))) (q_m m co hd fi se te re fa (k_pl (m x_reader_bytes_) (m x_reader_ 1) i) (k_en (m x_reader_bytes_) (m x_reader_ 1) (k_pl (m x_reader_bytes_) (m x_reader_ 1) i)) pa op cl sz) → (0 ≤ w ∧ w + ws.length < 1000) → cw_R (d + 4) k_Re_wordIn 13 [vr x_reader_, vr 7340044, vi w, vi (k_pl (m x_reader_bytes_) (m x_reader_ 1) i), vi 1, vi o] [] (q_m m co hd fi se te re fa (k_pl (m x_reader_bytes_) (m x_reader_ 1) i) (k_en (m x_reader_bytes_) (m x_reader_ 1) (k_pl (m x_reader_bytes_) (m x_reader_ 1) i)) pa op cl sz) Q := by
    intro ws
    induction ws with
    | nil =>
      intro o w ht hQ hw
      have ht : o = 2 + 1 := ht
      refine la_go_R hm 9 [] ?_
      show cw_C _ _ [vr 7340044] (q_m m co hd fi se te re fa (k_pl (m x_reader_bytes_) (m x_reader_ 1) i) (k_en (m x_reader_bytes_) (m x_reader_ 1) (k_pl (m x_reader_bytes_) (m x_reader_ 1) i)) pa op cl sz) _
      refine Js_length (L := 2) rfl hs1 (by show cw_ln (m 7340044 0) = _; rw [hs0]; rfl) (by decide) (by show 40 ≤ cw_tg (m 7340044 0); rw [hs0]; decide) ⟨hm, ?_⟩
      refine br_t (show 2 < o by omega) ?_
      show Q (some (vi (-1))) (q_m m co hd fi se te re fa (k_pl (m x_reader_bytes_) (m x_reader_ 1) i) (k_en (m x_reader_bytes_) (m x_reader_ 1) (k_pl (m x_reader_bytes_) (m x_reader_ 1) i)) pa op cl sz)
      exact hQ
    | cons x t ihw =>
      intro o w ht hQ hw
      have hwl : w + (x :: t).length = w + 1 + t.length := by rw [List.length_cons]; omega
      have ht : (∀ q : Nat, q < x.length → m 18874539 (o + q) = x.getD q 0 ∧ x.getD q 0 ≠ 32 ∧ 0 ≤ x.getD q 0 ∧ x.getD q 0 < 128) ∧ (o + (x.length : Int) = 2 ∨ (o + (x.length : Int) < 2 ∧ m 18874539 (o + (x.length : Int)) = 32)) ∧ 0 ≤ o ∧ k_str (m 18874539) 2 (o + (x.length : Int) + 1) t := ht
      have ho := ht.2.2.1
      have hxl := ht.2.1
      have lw : ∀ (r : Nat) (q az same : Int), (x.length : Int) < q + r → (0 ≤ q ∧ q ≤ (x.length : Int)) → ((same = 1 ∧ az = (k_pl (m x_reader_bytes_) (m x_reader_ 1) i) + q ∧ ∀ q' : Nat, (q' : Int) < q → (k_pl (m x_reader_bytes_) (m x_reader_ 1) i) + q' < (k_en (m x_reader_bytes_) (m x_reader_ 1) (k_pl (m x_reader_bytes_) (m x_reader_ 1) i)) ∧ m x_reader_bytes_ ((k_pl (m x_reader_bytes_) (m x_reader_ 1) i) + q') = x.getD q' 0) ∨ (same = 0 ∧ k_is (m x_reader_bytes_) (k_pl (m x_reader_bytes_) (m x_reader_ 1) i) (k_en (m x_reader_bytes_) (m x_reader_ 1) (k_pl (m x_reader_bytes_) (m x_reader_ 1) i)) x = false)) → cw_R (d + 4) k_Re_wordIn 13 [vr x_reader_, vr 7340044, vi w, vi az, vi same, vi (o + q)] [] (q_m m co hd fi se te re fa (k_pl (m x_reader_bytes_) (m x_reader_ 1) i) (k_en (m x_reader_bytes_) (m x_reader_ 1) (k_pl (m x_reader_bytes_) (m x_reader_ 1) i)) pa op cl sz) Q := by
        intro r
        induction r with
        | zero =>
          intro q az same hr hq0 hI
          omega
        | succ r ih =>
          intro q az same hr hq0 hI
          have cq : (q = (x.length : Int) ∧ (o + q = 2 ∨ (o + q < 2 ∧ m 18874539 (o + q) = 32))) ∨ (q < (x.length : Int) ∧ o + q < 2 ∧ m 18874539 (o + q) ≠ 32 ∧ 0 ≤ m 18874539 (o + q) ∧ m 18874539 (o + q) < 128) := by
            by_cases z : q = (x.length : Int)
            · left; rw [z]; exact ⟨rfl, ht.2.1⟩
            · right; have c2 := ht.1 q.toNat (by omega); rw [show o + ((q.toNat : Nat) : Int) = o + q by omega] at c2; have c3 := ht.2.1; omega
          have ba : az < (k_en (m x_reader_bytes_) (m x_reader_ 1) (k_pl (m x_reader_bytes_) (m x_reader_ 1) i)) → (k_pl (m x_reader_bytes_) (m x_reader_ 1) i) ≤ az → 0 ≤ m x_reader_bytes_ az ∧ m x_reader_bytes_ az ≤ 255 := fun a c => hb az (by omega) (by omega)
          have hat : same = 1 → (k_pl (m x_reader_bytes_) (m x_reader_ 1) i) ≤ az := fun h => by rcases hI with ⟨-, h2, -⟩ | ⟨h2, -⟩ <;> omega
          have hsm : same = 0 ∨ same = 1 := by rcases hI with ⟨h2, -, -⟩ | ⟨h2, -⟩ <;> omega
          have hat9 : same = 1 → az = (k_pl (m x_reader_bytes_) (m x_reader_ 1) i) + q := fun h => by rcases hI with ⟨-, h2, -⟩ | ⟨h2, -⟩ <;> omega
          refine la_go_R hm 36 [13] ?_
          show cw_C _ _ [vr 7340044] (q_m m co hd fi se te re fa (k_pl (m x_reader_bytes_) (m x_reader_ 1) i) (k_en (m x_reader_bytes_) (m x_reader_ 1) (k_pl (m x_reader_bytes_) (m x_reader_ 1) i)) pa op cl sz) _
          refine Js_length (L := 2) rfl hs1 (by show cw_ln (m 7340044 0) = _; rw [hs0]; rfl) (by decide) (by show 40 ≤ cw_tg (m 7340044 0); rw [hs0]; decide) ⟨hm, ?_⟩
          refine And.intro (fun (c1 : 2 < o + q) => ?_) (fun (c1 : ¬ (2 < o + q)) => ?_)
          · show Q (some (vi (-1))) (q_m m co hd fi se te re fa (k_pl (m x_reader_bytes_) (m x_reader_ 1) i) (k_en (m x_reader_bytes_) (m x_reader_ 1) (k_pl (m x_reader_bytes_) (m x_reader_ 1) i)) pa op cl sz)
            exfalso
            rcases cq with cq | cq <;> omega
          · show cw_C _ _ [vr 7340044] (q_m m co hd fi se te re fa (k_pl (m x_reader_bytes_) (m x_reader_ 1) i) (k_en (m x_reader_bytes_) (m x_reader_ 1) (k_pl (m x_reader_bytes_) (m x_reader_ 1) i)) pa op cl sz) _
            refine Js_length (L := 2) rfl hs1 (by show cw_ln (m 7340044 0) = _; rw [hs0]; rfl) (by decide) (by show 40 ≤ cw_tg (m 7340044 0); rw [hs0]; decide) ⟨hm, ?_⟩
            refine And.intro (fun (c2 : o + q = 2) => ?_) (fun (c2 : ¬ (o + q = 2)) => ?_)
            · refine And.intro (fun (c3 : same = 0) => ?_) (fun (c3 : ¬ (same = 0)) => ?_)
              · refine And.intro (show -2147483648 ≤ w + 1 ∧ w + 1 < 2147483648 by omega) ?_
                refine And.intro (show -2147483648 ≤ (o + q) + 1 ∧ (o + q) + 1 < 2147483648 by omega) ?_
                show cw_R _ _ 13 [vr x_reader_, vr 7340044, vi (w + 1), vi (k_pl (m x_reader_bytes_) (m x_reader_ 1) i), vi 1, vi ((o + q) + 1)] [] (q_m m co hd fi se te re fa (k_pl (m x_reader_bytes_) (m x_reader_ 1) i) (k_en (m x_reader_bytes_) (m x_reader_ 1) (k_pl (m x_reader_bytes_) (m x_reader_ 1) i)) pa op cl sz) _
                have hq : q = (x.length : Int) := by
                  rcases cq with cq | cq <;> omega
                have hk : k_is (m x_reader_bytes_) (k_pl (m x_reader_bytes_) (m x_reader_ 1) i) (k_en (m x_reader_bytes_) (m x_reader_ 1) (k_pl (m x_reader_bytes_) (m x_reader_ 1) i)) x = false := by
                  cases hk : k_is (m x_reader_bytes_) (k_pl (m x_reader_bytes_) (m x_reader_ 1) i) (k_en (m x_reader_bytes_) (m x_reader_ 1) (k_pl (m x_reader_bytes_) (m x_reader_ 1) i)) x with
                  | false => rfl
                  | true => have z := (k_ist.mp hk).1; rcases hI with ⟨h, h2, hI⟩ | ⟨h, hI⟩
                            · omega
                            · rw [hI] at hk; cases hk
                have z : k_wi (m x_reader_bytes_) (k_pl (m x_reader_bytes_) (m x_reader_ 1) i) (k_en (m x_reader_bytes_) (m x_reader_ 1) (k_pl (m x_reader_bytes_) (m x_reader_ 1) i)) (x :: t) w = k_wi (m x_reader_bytes_) (k_pl (m x_reader_bytes_) (m x_reader_ 1) i) (k_en (m x_reader_bytes_) (m x_reader_ 1) (k_pl (m x_reader_bytes_) (m x_reader_ 1) i)) t (w + 1) := by show (if k_is (m x_reader_bytes_) (k_pl (m x_reader_bytes_) (m x_reader_ 1) i) (k_en (m x_reader_bytes_) (m x_reader_ 1) (k_pl (m x_reader_bytes_) (m x_reader_ 1) i)) x = true then w else _) = _; rw [if_neg (by rw [hk]; decide)]
                rw [z] at hQ
                rw [show o + q + 1 = o + (x.length : Int) + 1 by omega]
                exact ihw _ _ ht.2.2.2 hQ (by omega)
              · refine And.intro (fun (c4 : az ≠ (k_en (m x_reader_bytes_) (m x_reader_ 1) (k_pl (m x_reader_bytes_) (m x_reader_ 1) i))) => ?_) (fun (c4 : ¬ (az ≠ (k_en (m x_reader_bytes_) (m x_reader_ 1) (k_pl (m x_reader_bytes_) (m x_reader_ 1) i)))) => ?_)
                · refine And.intro (show -2147483648 ≤ w + 1 ∧ w + 1 < 2147483648 by omega) ?_
                  refine And.intro (show -2147483648 ≤ (o + q) + 1 ∧ (o + q) + 1 < 2147483648 by omega) ?_
                  show cw_R _ _ 13 [vr x_reader_, vr 7340044, vi (w + 1), vi (k_pl (m x_reader_bytes_) (m x_reader_ 1) i), vi 1, vi ((o + q) + 1)] [] (q_m m co hd fi se te re fa (k_pl (m x_reader_bytes_) (m x_reader_ 1) i) (k_en (m x_reader_bytes_) (m x_reader_ 1) (k_pl (m x_reader_bytes_) (m x_reader_ 1) i)) pa op cl sz) _
                  have hq : q = (x.length : Int) := by
                    rcases cq with cq | cq <;> omega
                  have hk : k_is (m x_reader_bytes_) (k_pl (m x_reader_bytes_) (m x_reader_ 1) i) (k_en (m x_reader_bytes_) (m x_reader_ 1) (k_pl (m x_reader_bytes_) (m x_reader_ 1) i)) x = false := by
                    cases hk : k_is (m x_reader_bytes_) (k_pl (m x_reader_bytes_) (m x_reader_ 1) i) (k_en (m x_reader_bytes_) (m x_reader_ 1) (k_pl (m x_reader_bytes_) (m x_reader_ 1) i)) x with
                    | false => rfl
                    | true => have z := (k_ist.mp hk).1; rcases hI with ⟨h, h2, hI⟩ | ⟨h, hI⟩
                              · omega
                              · rw [hI] at hk; cases hk
                  have z : k_wi (m x_reader_bytes_) (k_pl (m x_reader_bytes_) (m x_reader_ 1) i) (k_en (m x_reader_bytes_) (m x_reader_ 1) (k_pl (m x_reader_bytes_) (m x_reader_ 1) i)) (x :: t) w = k_wi (m x_reader_bytes_) (k_pl (m x_reader_bytes_) (m x_reader_ 1) i) (k_en (m x_reader_bytes_) (m x_reader_ 1) (k_pl (m x_reader_bytes_) (m x_reader_ 1) i)) t (w + 1) := by show (if k_is (m x_reader_bytes_) (k_pl (m x_reader_bytes_) (m x_reader_ 1) i) (k_en (m x_reader_bytes_) (m x_reader_ 1) (k_pl (m x_reader_bytes_) (m x_reader_ 1) i)) x = true then w else _) = _; rw [if_neg (by rw [hk]; decide)]
                  rw [z] at hQ
                  rw [show o + q + 1 = o + (x.length : Int) + 1 by omega]
                  exact ihw _ _ ht.2.2.2 hQ (by omega)
                · show Q (some (vi w)) (q_m m co hd fi se te re fa (k_pl (m x_reader_bytes_) (m x_reader_ 1) i) (k_en (m x_reader_bytes_) (m x_reader_ 1) (k_pl (m x_reader_bytes_) (m x_reader_ 1) i)) pa op cl sz)
                  have hq : q = (x.length : Int) := by
                    rcases cq with cq | cq <;> omega
                  have hk : k_is (m x_reader_bytes_) (k_pl (m x_reader_bytes_) (m x_reader_ 1) i) (k_en (m x_reader_bytes_) (m x_reader_ 1) (k_pl (m x_reader_bytes_) (m x_reader_ 1) i)) x = true := by
                    rcases hI with ⟨h, h2, hI⟩ | ⟨h, hI⟩
                    · exact k_ist.mpr ⟨by omega, fun q' hq' => (hI q' (by omega)).2⟩
                    · omega
                  have z : k_wi (m x_reader_bytes_) (k_pl (m x_reader_bytes_) (m x_reader_ 1) i) (k_en (m x_reader_bytes_) (m x_reader_ 1) (k_pl (m x_reader_bytes_) (m x_reader_ 1) i)) (x :: t) w = w := by show (if k_is (m x_reader_bytes_) (k_pl (m x_reader_bytes_) (m x_reader_ 1) i) (k_en (m x_reader_bytes_) (m x_reader_ 1) (k_pl (m x_reader_bytes_) (m x_reader_ 1) i)) x = true then w else _) = _; rw [if_pos hk]
                  rw [z] at hQ
                  exact hQ
            · show cw_C _ _ [vr 7340044, vi (o + q)] (q_m m co hd fi se te re fa (k_pl (m x_reader_bytes_) (m x_reader_ 1) i) (k_en (m x_reader_bytes_) (m x_reader_ 1) (k_pl (m x_reader_bytes_) (m x_reader_ 1) i)) pa op cl sz) _
              refine Js_charAt (B := 18874539) rfl hs1 hs0 rfl (show 0 ≤ o + q ∧ o + q < 2 by omega) (show 0 ≤ m 18874539 (o + q) ∧ m 18874539 (o + q) < 128 by rcases cq with cq | cq <;> omega) ⟨hm, ?_⟩
              refine And.intro (fun (c5 : m 18874539 (o + q) ≠ 32) => ?_) (fun (c5 : ¬ (m 18874539 (o + q) ≠ 32)) => ?_)
              · refine And.intro (fun (c6 : same = 0) => ?_) (fun (c6 : ¬ (same = 0)) => ?_)
                · refine And.intro (show -2147483648 ≤ (o + q) + 1 ∧ (o + q) + 1 < 2147483648 by omega) ?_
                  show cw_R _ _ 13 [vr x_reader_, vr 7340044, vi w, vi az, vi same, vi ((o + q) + 1)] [] (q_m m co hd fi se te re fa (k_pl (m x_reader_bytes_) (m x_reader_ 1) i) (k_en (m x_reader_bytes_) (m x_reader_ 1) (k_pl (m x_reader_bytes_) (m x_reader_ 1) i)) pa op cl sz) _
                  rw [show o + q + 1 = o + (q + 1) by omega]
                  refine ih (q + 1) _ _ (by omega) (by omega) (Or.inr ⟨by omega, ?_⟩)
                  cases hk : k_is (m x_reader_bytes_) (k_pl (m x_reader_bytes_) (m x_reader_ 1) i) (k_en (m x_reader_bytes_) (m x_reader_ 1) (k_pl (m x_reader_bytes_) (m x_reader_ 1) i)) x with
                  | false => rfl
                  | true =>
                    exfalso
                    rcases hI with ⟨h, h2, hI⟩ | ⟨h, hI⟩
                    · have z := k_ist.mp hk; have z2 := z.2 q.toNat (by rcases cq with cq | cq <;> omega); have c2 := ht.1 q.toNat (by rcases cq with cq | cq <;> omega); rw [show o + ((q.toNat : Nat) : Int) = o + q by omega] at c2; rw [show (k_pl (m x_reader_bytes_) (m x_reader_ 1) i) + ((q.toNat : Nat) : Int) = az by omega] at z2; rcases cq with cq | cq <;> omega
                    · rw [hI] at hk; cases hk
                · refine And.intro (fun (c7 : (k_en (m x_reader_bytes_) (m x_reader_ 1) (k_pl (m x_reader_bytes_) (m x_reader_ 1) i)) ≤ az) => ?_) (fun (c7 : ¬ ((k_en (m x_reader_bytes_) (m x_reader_ 1) (k_pl (m x_reader_bytes_) (m x_reader_ 1) i)) ≤ az)) => ?_)
                  · refine And.intro (show -2147483648 ≤ az + 1 ∧ az + 1 < 2147483648 by omega) ?_
                    refine And.intro (show -2147483648 ≤ (o + q) + 1 ∧ (o + q) + 1 < 2147483648 by omega) ?_
                    show cw_R _ _ 13 [vr x_reader_, vr 7340044, vi w, vi (az + 1), vi 0, vi ((o + q) + 1)] [] (q_m m co hd fi se te re fa (k_pl (m x_reader_bytes_) (m x_reader_ 1) i) (k_en (m x_reader_bytes_) (m x_reader_ 1) (k_pl (m x_reader_bytes_) (m x_reader_ 1) i)) pa op cl sz) _
                    rw [show o + q + 1 = o + (q + 1) by omega]
                    refine ih (q + 1) _ _ (by omega) (by omega) (Or.inr ⟨rfl, ?_⟩)
                    cases hk : k_is (m x_reader_bytes_) (k_pl (m x_reader_bytes_) (m x_reader_ 1) i) (k_en (m x_reader_bytes_) (m x_reader_ 1) (k_pl (m x_reader_bytes_) (m x_reader_ 1) i)) x with
                    | false => rfl
                    | true =>
                      exfalso
                      rcases hI with ⟨h, h2, hI⟩ | ⟨h, hI⟩
                      · have z := k_ist.mp hk; have z2 := z.2 q.toNat (by rcases cq with cq | cq <;> omega); have c2 := ht.1 q.toNat (by rcases cq with cq | cq <;> omega); rw [show o + ((q.toNat : Nat) : Int) = o + q by omega] at c2; rw [show (k_pl (m x_reader_bytes_) (m x_reader_ 1) i) + ((q.toNat : Nat) : Int) = az by omega] at z2; rcases cq with cq | cq <;> omega
                      · rw [hI] at hk; cases hk
                  · refine And.intro (show 0 ≤ az ∧ az < 400 by omega) ?_
                    show cw_C _ _ [vr 7340044, vi (o + q)] (q_m m co hd fi se te re fa (k_pl (m x_reader_bytes_) (m x_reader_ 1) i) (k_en (m x_reader_bytes_) (m x_reader_ 1) (k_pl (m x_reader_bytes_) (m x_reader_ 1) i)) pa op cl sz) _
                    refine Js_charAt (B := 18874539) rfl hs1 hs0 rfl (show 0 ≤ o + q ∧ o + q < 2 by omega) (show 0 ≤ m 18874539 (o + q) ∧ m 18874539 (o + q) < 128 by rcases cq with cq | cq <;> omega) ⟨hm, ?_⟩
                    refine And.intro (fun (c8 : m x_reader_bytes_ az ≠ m 18874539 (o + q)) => ?_) (fun (c8 : ¬ (m x_reader_bytes_ az ≠ m 18874539 (o + q))) => ?_)
                    · refine And.intro (show -2147483648 ≤ az + 1 ∧ az + 1 < 2147483648 by omega) ?_
                      refine And.intro (show -2147483648 ≤ (o + q) + 1 ∧ (o + q) + 1 < 2147483648 by omega) ?_
                      show cw_R _ _ 13 [vr x_reader_, vr 7340044, vi w, vi (az + 1), vi 0, vi ((o + q) + 1)] [] (q_m m co hd fi se te re fa (k_pl (m x_reader_bytes_) (m x_reader_ 1) i) (k_en (m x_reader_bytes_) (m x_reader_ 1) (k_pl (m x_reader_bytes_) (m x_reader_ 1) i)) pa op cl sz) _
                      rw [show o + q + 1 = o + (q + 1) by omega]
                      refine ih (q + 1) _ _ (by omega) (by omega) (Or.inr ⟨rfl, ?_⟩)
                      cases hk : k_is (m x_reader_bytes_) (k_pl (m x_reader_bytes_) (m x_reader_ 1) i) (k_en (m x_reader_bytes_) (m x_reader_ 1) (k_pl (m x_reader_bytes_) (m x_reader_ 1) i)) x with
                      | false => rfl
                      | true =>
                        exfalso
                        rcases hI with ⟨h, h2, hI⟩ | ⟨h, hI⟩
                        · have z := k_ist.mp hk; have z2 := z.2 q.toNat (by rcases cq with cq | cq <;> omega); have c2 := ht.1 q.toNat (by rcases cq with cq | cq <;> omega); rw [show o + ((q.toNat : Nat) : Int) = o + q by omega] at c2; rw [show (k_pl (m x_reader_bytes_) (m x_reader_ 1) i) + ((q.toNat : Nat) : Int) = az by omega] at z2; rcases cq with cq | cq <;> omega
                        · rw [hI] at hk; cases hk
                    · refine And.intro (show -2147483648 ≤ az + 1 ∧ az + 1 < 2147483648 by omega) ?_
                      refine And.intro (show -2147483648 ≤ (o + q) + 1 ∧ (o + q) + 1 < 2147483648 by omega) ?_
                      show cw_R _ _ 13 [vr x_reader_, vr 7340044, vi w, vi (az + 1), vi 1, vi ((o + q) + 1)] [] (q_m m co hd fi se te re fa (k_pl (m x_reader_bytes_) (m x_reader_ 1) i) (k_en (m x_reader_bytes_) (m x_reader_ 1) (k_pl (m x_reader_bytes_) (m x_reader_ 1) i)) pa op cl sz) _
                      rw [show o + q + 1 = o + (q + 1) by omega]
                      refine ih (q + 1) _ _ (by omega) (by omega) ?_
                      rcases hI with ⟨h, h2, hI⟩ | ⟨h, hI⟩
                      · refine Or.inl ⟨rfl, by omega, fun q' hq' => ?_⟩
                        by_cases e2 : (q' : Int) = q
                        · have c2 := ht.1 q.toNat (by rcases cq with cq | cq <;> omega); rw [show o + ((q.toNat : Nat) : Int) = o + q by omega] at c2; rw [show q' = q.toNat by omega, show (k_pl (m x_reader_bytes_) (m x_reader_ 1) i) + ((q.toNat : Nat) : Int) = az by omega]; omega
                        · exact hI q' (by omega)
                      · omega
              · refine And.intro (fun (c9 : same = 0) => ?_) (fun (c9 : ¬ (same = 0)) => ?_)
                · refine And.intro (show -2147483648 ≤ w + 1 ∧ w + 1 < 2147483648 by omega) ?_
                  refine And.intro (show -2147483648 ≤ (o + q) + 1 ∧ (o + q) + 1 < 2147483648 by omega) ?_
                  show cw_R _ _ 13 [vr x_reader_, vr 7340044, vi (w + 1), vi (k_pl (m x_reader_bytes_) (m x_reader_ 1) i), vi 1, vi ((o + q) + 1)] [] (q_m m co hd fi se te re fa (k_pl (m x_reader_bytes_) (m x_reader_ 1) i) (k_en (m x_reader_bytes_) (m x_reader_ 1) (k_pl (m x_reader_bytes_) (m x_reader_ 1) i)) pa op cl sz) _
                  have hq : q = (x.length : Int) := by
                    rcases cq with cq | cq <;> omega
                  have hk : k_is (m x_reader_bytes_) (k_pl (m x_reader_bytes_) (m x_reader_ 1) i) (k_en (m x_reader_bytes_) (m x_reader_ 1) (k_pl (m x_reader_bytes_) (m x_reader_ 1) i)) x = false := by
                    cases hk : k_is (m x_reader_bytes_) (k_pl (m x_reader_bytes_) (m x_reader_ 1) i) (k_en (m x_reader_bytes_) (m x_reader_ 1) (k_pl (m x_reader_bytes_) (m x_reader_ 1) i)) x with
                    | false => rfl
                    | true => have z := (k_ist.mp hk).1; rcases hI with ⟨h, h2, hI⟩ | ⟨h, hI⟩
                              · omega
                              · rw [hI] at hk; cases hk
                  have z : k_wi (m x_reader_bytes_) (k_pl (m x_reader_bytes_) (m x_reader_ 1) i) (k_en (m x_reader_bytes_) (m x_reader_ 1) (k_pl (m x_reader_bytes_) (m x_reader_ 1) i)) (x :: t) w = k_wi (m x_reader_bytes_) (k_pl (m x_reader_bytes_) (m x_reader_ 1) i) (k_en (m x_reader_bytes_) (m x_reader_ 1) (k_pl (m x_reader_bytes_) (m x_reader_ 1) i)) t (w + 1) := by show (if k_is (m x_reader_bytes_) (k_pl (m x_reader_bytes_) (m x_reader_ 1) i) (k_en (m x_reader_bytes_) (m x_reader_ 1) (k_pl (m x_reader_bytes_) (m x_reader_ 1) i)) x = true then w else _) = _; rw [if_neg (by rw [hk]; decide)]
                  rw [z] at hQ
                  rw [show o + q + 1 = o + (x.length : Int) + 1 by omega]
                  exact ihw _ _ ht.2.2.2 hQ (by omega)
                · refine And.intro (fun (c10 : az ≠ (k_en (m x_reader_bytes_) (m x_reader_ 1) (k_pl (m x_reader_bytes_) (m x_reader_ 1) i))) => ?_) (fun (c10 : ¬ (az ≠ (k_en (m x_reader_bytes_) (m x_reader_ 1) (k_pl (m x_reader_bytes_) (m x_reader_ 1) i)))) => ?_)
                  · refine And.intro (show -2147483648 ≤ w + 1 ∧ w + 1 < 2147483648 by omega) ?_
                    refine And.intro (show -2147483648 ≤ (o + q) + 1 ∧ (o + q) + 1 < 2147483648 by omega) ?_
                    show cw_R _ _ 13 [vr x_reader_, vr 7340044, vi (w + 1), vi (k_pl (m x_reader_bytes_) (m x_reader_ 1) i), vi 1, vi ((o + q) + 1)] [] (q_m m co hd fi se te re fa (k_pl (m x_reader_bytes_) (m x_reader_ 1) i) (k_en (m x_reader_bytes_) (m x_reader_ 1) (k_pl (m x_reader_bytes_) (m x_reader_ 1) i)) pa op cl sz) _
                    have hq : q = (x.length : Int) := by
                      rcases cq with cq | cq <;> omega
                    have hk : k_is (m x_reader_bytes_) (k_pl (m x_reader_bytes_) (m x_reader_ 1) i) (k_en (m x_reader_bytes_) (m x_reader_ 1) (k_pl (m x_reader_bytes_) (m x_reader_ 1) i)) x = false := by
                      cases hk : k_is (m x_reader_bytes_) (k_pl (m x_reader_bytes_) (m x_reader_ 1) i) (k_en (m x_reader_bytes_) (m x_reader_ 1) (k_pl (m x_reader_bytes_) (m x_reader_ 1) i)) x with
                      | false => rfl
                      | true => have z := (k_ist.mp hk).1; rcases hI with ⟨h, h2, hI⟩ | ⟨h, hI⟩
                                · omega
                                · rw [hI] at hk; cases hk
                    have z : k_wi (m x_reader_bytes_) (k_pl (m x_reader_bytes_) (m x_reader_ 1) i) (k_en (m x_reader_bytes_) (m x_reader_ 1) (k_pl (m x_reader_bytes_) (m x_reader_ 1) i)) (x :: t) w = k_wi (m x_reader_bytes_) (k_pl (m x_reader_bytes_) (m x_reader_ 1) i) (k_en (m x_reader_bytes_) (m x_reader_ 1) (k_pl (m x_reader_bytes_) (m x_reader_ 1) i)) t (w + 1) := by show (if k_is (m x_reader_bytes_) (k_pl (m x_reader_bytes_) (m x_reader_ 1) i) (k_en (m x_reader_bytes_) (m x_reader_ 1) (k_pl (m x_reader_bytes_) (m x_reader_ 1) i)) x = true then w else _) = _; rw [if_neg (by rw [hk]; decide)]
                    rw [z] at hQ
                    rw [show o + q + 1 = o + (x.length : Int) + 1 by omega]
                    exact ihw _ _ ht.2.2.2 hQ (by omega)
                  · show Q (some (vi w)) (q_m m co hd fi se te re fa (k_pl (m x_reader_bytes_) (m x_reader_ 1) i) (k_en (m x_reader_bytes_) (m x_reader_ 1) (k_pl (m x_reader_bytes_) (m x_reader_ 1) i)) pa op cl sz)
                    have hq : q = (x.length : Int) := by
                      rcases cq with cq | cq <;> omega
                    have hk : k_is (m x_reader_bytes_) (k_pl (m x_reader_bytes_) (m x_reader_ 1) i) (k_en (m x_reader_bytes_) (m x_reader_ 1) (k_pl (m x_reader_bytes_) (m x_reader_ 1) i)) x = true := by
                      rcases hI with ⟨h, h2, hI⟩ | ⟨h, hI⟩
                      · exact k_ist.mpr ⟨by omega, fun q' hq' => (hI q' (by omega)).2⟩
                      · omega
                    have z : k_wi (m x_reader_bytes_) (k_pl (m x_reader_bytes_) (m x_reader_ 1) i) (k_en (m x_reader_bytes_) (m x_reader_ 1) (k_pl (m x_reader_bytes_) (m x_reader_ 1) i)) (x :: t) w = w := by show (if k_is (m x_reader_bytes_) (k_pl (m x_reader_bytes_) (m x_reader_ 1) i) (k_en (m x_reader_bytes_) (m x_reader_ 1) (k_pl (m x_reader_bytes_) (m x_reader_ 1) i)) x = true then w else _) = _; rw [if_pos hk]
                    rw [z] at hQ
                    exact hQ
      have z := lw (x.length + 1) 0 (k_pl (m x_reader_bytes_) (m x_reader_ 1) i) 1 (by omega) (by omega) (Or.inl ⟨rfl, by omega, fun q' hq' => by omega⟩)
      rw [show o + 0 = o by omega] at z
      exact z
  refine la_go_C hm 12 [13] ?_
  show cw_R _ _ 13 [vr x_reader_, vr 7340044, vi 0, vi (k_pl (m x_reader_bytes_) (m x_reader_ 1) i), vi 1, vi 0] [] (q_m m co hd fi se te re fa (k_pl (m x_reader_bytes_) (m x_reader_ 1) i) (k_en (m x_reader_bytes_) (m x_reader_ 1) (k_pl (m x_reader_bytes_) (m x_reader_ 1) i)) pa op cl sz) _
  exact main _ 0 0 hstr h (by decide)
theorem Re_wordIn4 {d : Nat} {m : cw_M} {Q : Option cw_V → cw_M → Prop} (hm0 : la_ok m) (hn : 0 ≤ m x_reader_ 1 ∧ m x_reader_ 1 ≤ 400) (hb : ∀ i, 0 ≤ i → i < m x_reader_ 1 → 0 ≤ m x_reader_bytes_ i ∧ m x_reader_bytes_ i ≤ 255) (hs0 : m 8388620 0 = 19923115) (hs1 : m 8388620 1 = 0) (hstr : k_str (m 19923115) 2 0 [[116, 111]]) {co hd fi se te re : Int → Int} {fa st sp pa op cl sz : Int} {i : Nat} (h : Q (some (vi (k_wi (m x_reader_bytes_) (k_pl (m x_reader_bytes_) (m x_reader_ 1) i) (k_en (m x_reader_bytes_) (m x_reader_ 1) (k_pl (m x_reader_bytes_) (m x_reader_ 1) i)) [[116, 111]] 0))) (q_m m co hd fi se te re fa (k_pl (m x_reader_bytes_) (m x_reader_ 1) i) (k_en (m x_reader_bytes_) (m x_reader_ 1) (k_pl (m x_reader_bytes_) (m x_reader_ 1) i)) pa op cl sz)) : cw_C (d + 4) k_Re_wordIn [vr x_reader_, vr 8388620] (q_m m co hd fi se te re fa (k_pl (m x_reader_bytes_) (m x_reader_ 1) i) (k_en (m x_reader_bytes_) (m x_reader_ 1) (k_pl (m x_reader_bytes_) (m x_reader_ 1) i)) pa op cl sz) Q := by
  have hm : la_ok (q_m m co hd fi se te re fa (k_pl (m x_reader_bytes_) (m x_reader_ 1) i) (k_en (m x_reader_bytes_) (m x_reader_ 1) (k_pl (m x_reader_bytes_) (m x_reader_ 1) i)) pa op cl sz) := q_m_ok hm0
  have pr := k_plr (b := (m x_reader_bytes_)) hn.1 i
  have er := Re_enr (b := (m x_reader_bytes_)) hn.1 i
  have main : ∀ (ws : List (List Int)) (o w : Int), k_str (m 19923115) 2 o ws → Q (some (vi (k_wi (m x_reader_bytes_) (k_pl (m x_reader_bytes_) (m x_reader_ 1) i) (k_en (m x_reader_bytes_) (m x_reader_ 1) (k_pl (m x_reader_bytes_) (m x_reader_ 1) i)) ws w))) (q_m m co hd fi se te re fa (k_pl (m x_reader_bytes_) (m x_reader_ 1) i) (k_en (m x_reader_bytes_) (m x_reader_ 1) (k_pl (m x_reader_bytes_) (m x_reader_ 1) i)) pa op cl sz) → (0 ≤ w ∧ w + ws.length < 1000) → cw_R (d + 4) k_Re_wordIn 13 [vr x_reader_, vr 8388620, vi w, vi (k_pl (m x_reader_bytes_) (m x_reader_ 1) i), vi 1, vi o] [] (q_m m co hd fi se te re fa (k_pl (m x_reader_bytes_) (m x_reader_ 1) i) (k_en (m x_reader_bytes_) (m x_reader_ 1) (k_pl (m x_reader_bytes_) (m x_reader_ 1) i)) pa op cl sz) Q := by
    intro ws
    induction ws with
    | nil =>
      intro o w ht hQ hw
      have ht : o = 2 + 1 := ht
      refine la_go_R hm 9 [] ?_
      show cw_C _ _ [vr 8388620] (q_m m co hd fi se te re fa (k_pl (m x_reader_bytes_) (m x_reader_ 1) i) (k_en (m x_reader_bytes_) (m x_reader_ 1) (k_pl (m x_reader_bytes_) (m x_reader_ 1) i)) pa op cl sz) _
      refine Js_length (L := 2) rfl hs1 (by show cw_ln (m 8388620 0) = _; rw [hs0]; rfl) (by decide) (by show 40 ≤ cw_tg (m 8388620 0); rw [hs0]; decide) ⟨hm, ?_⟩
      refine br_t (show 2 < o by omega) ?_
      show Q (some (vi (-1))) (q_m m co hd fi se te re fa (k_pl (m x_reader_bytes_) (m x_reader_ 1) i) (k_en (m x_reader_bytes_) (m x_reader_ 1) (k_pl (m x_reader_bytes_) (m x_reader_ 1) i)) pa op cl sz)
      exact hQ
    | cons x t ihw =>
      intro o w ht hQ hw
      have hwl : w + (x :: t).length = w + 1 + t.length := by rw [List.length_cons]; omega
      have ht : (∀ q : Nat, q < x.length → m 19923115 (o + q) = x.getD q 0 ∧ x.getD q 0 ≠ 32 ∧ 0 ≤ x.getD q 0 ∧ x.getD q 0 < 128) ∧ (o + (x.length : Int) = 2 ∨ (o + (x.length : Int) < 2 ∧ m 19923115 (o + (x.length : Int)) = 32)) ∧ 0 ≤ o ∧ k_str (m 19923115) 2 (o + (x.length : Int) + 1) t := ht
      have ho := ht.2.2.1
      have hxl := ht.2.1
      have lw : ∀ (r : Nat) (q az same : Int), (x.length : Int) < q + r → (0 ≤ q ∧ q ≤ (x.length : Int)) → ((same = 1 ∧ az = (k_pl (m x_reader_bytes_) (m x_reader_ 1) i) + q ∧ ∀ q' : Nat, (q' : Int) < q → (k_pl (m x_reader_bytes_) (m x_reader_ 1) i) + q' < (k_en (m x_reader_bytes_) (m x_reader_ 1) (k_pl (m x_reader_bytes_) (m x_reader_ 1) i)) ∧ m x_reader_bytes_ ((k_pl (m x_reader_bytes_) (m x_reader_ 1) i) + q') = x.getD q' 0) ∨ (same = 0 ∧ k_is (m x_reader_bytes_) (k_pl (m x_reader_bytes_) (m x_reader_ 1) i) (k_en (m x_reader_bytes_) (m x_reader_ 1) (k_pl (m x_reader_bytes_) (m x_reader_ 1) i)) x = false)) → cw_R (d + 4) k_Re_wordIn 13 [vr x_reader_, vr 8388620, vi w, vi az, vi same, vi (o + q)] [] (q_m m co hd fi se te re fa (k_pl (m x_reader_bytes_) (m x_reader_ 1) i) (k_en (m x_reader_bytes_) (m x_reader_ 1) (k_pl (m x_reader_bytes_) (m x_reader_ 1) i)) pa op cl sz) Q := by
        intro r
        induction r with
        | zero =>
          intro q az same hr hq0 hI
          omega
        | succ r ih =>
          intro q az same hr hq0 hI
          have cq : (q = (x.length : Int) ∧ (o + q = 2 ∨ (o + q < 2 ∧ m 19923115 (o + q) = 32))) ∨ (q < (x.length : Int) ∧ o + q < 2 ∧ m 19923115 (o + q) ≠ 32 ∧ 0 ≤ m 19923115 (o + q) ∧ m 19923115 (o + q) < 128) := by
            by_cases z : q = (x.length : Int)
            · left; rw [z]; exact ⟨rfl, ht.2.1⟩
            · right; have c2 := ht.1 q.toNat (by omega); rw [show o + ((q.toNat : Nat) : Int) = o + q by omega] at c2; have c3 := ht.2.1; omega
          have ba : az < (k_en (m x_reader_bytes_) (m x_reader_ 1) (k_pl (m x_reader_bytes_) (m x_reader_ 1) i)) → (k_pl (m x_reader_bytes_) (m x_reader_ 1) i) ≤ az → 0 ≤ m x_reader_bytes_ az ∧ m x_reader_bytes_ az ≤ 255 := fun a c => hb az (by omega) (by omega)
          have hat : same = 1 → (k_pl (m x_reader_bytes_) (m x_reader_ 1) i) ≤ az := fun h => by rcases hI with ⟨-, h2, -⟩ | ⟨h2, -⟩ <;> omega
          have hsm : same = 0 ∨ same = 1 := by rcases hI with ⟨h2, -, -⟩ | ⟨h2, -⟩ <;> omega
          have hat9 : same = 1 → az = (k_pl (m x_reader_bytes_) (m x_reader_ 1) i) + q := fun h => by rcases hI with ⟨-, h2, -⟩ | ⟨h2, -⟩ <;> omega
          refine la_go_R hm 36 [13] ?_
          show cw_C _ _ [vr 8388620] (q_m m co hd fi se te re fa (k_pl (m x_reader_bytes_) (m x_reader_ 1) i) (k_en (m x_reader_bytes_) (m x_reader_ 1) (k_pl (m x_reader_bytes_) (m x_reader_ 1) i)) pa op cl sz) _
          refine Js_length (L := 2) rfl hs1 (by show cw_ln (m 8388620 0) = _; rw [hs0]; rfl) (by decide) (by show 40 ≤ cw_tg (m 8388620 0); rw [hs0]; decide) ⟨hm, ?_⟩
          refine And.intro (fun (c1 : 2 < o + q) => ?_) (fun (c1 : ¬ (2 < o + q)) => ?_)
          · show Q (some (vi (-1))) (q_m m co hd fi se te re fa (k_pl (m x_reader_bytes_) (m x_reader_ 1) i) (k_en (m x_reader_bytes_) (m x_reader_ 1) (k_pl (m x_reader_bytes_) (m x_reader_ 1) i)) pa op cl sz)
            exfalso
            rcases cq with cq | cq <;> omega
          · show cw_C _ _ [vr 8388620] (q_m m co hd fi se te re fa (k_pl (m x_reader_bytes_) (m x_reader_ 1) i) (k_en (m x_reader_bytes_) (m x_reader_ 1) (k_pl (m x_reader_bytes_) (m x_reader_ 1) i)) pa op cl sz) _
            refine Js_length (L := 2) rfl hs1 (by show cw_ln (m 8388620 0) = _; rw [hs0]; rfl) (by decide) (by show 40 ≤ cw_tg (m 8388620 0); rw [hs0]; decide) ⟨hm, ?_⟩
            refine And.intro (fun (c2 : o + q = 2) => ?_) (fun (c2 : ¬ (o + q = 2)) => ?_)
            · refine And.intro (fun (c3 : same = 0) => ?_) (fun (c3 : ¬ (same = 0)) => ?_)
              · refine And.intro (show -2147483648 ≤ w + 1 ∧ w + 1 < 2147483648 by omega) ?_
                refine And.intro (show -2147483648 ≤ (o + q) + 1 ∧ (o + q) + 1 < 2147483648 by omega) ?_
                show cw_R _ _ 13 [vr x_reader_, vr 8388620, vi (w + 1), vi (k_pl (m x_reader_bytes_) (m x_reader_ 1) i), vi 1, vi ((o + q) + 1)] [] (q_m m co hd fi se te re fa (k_pl (m x_reader_bytes_) (m x_reader_ 1) i) (k_en (m x_reader_bytes_) (m x_reader_ 1) (k_pl (m x_reader_bytes_) (m x_reader_ 1) i)) pa op cl sz) _
                have hq : q = (x.length : Int) := by
                  rcases cq with cq | cq <;> omega
                have hk : k_is (m x_reader_bytes_) (k_pl (m x_reader_bytes_) (m x_reader_ 1) i) (k_en (m x_reader_bytes_) (m x_reader_ 1) (k_pl (m x_reader_bytes_) (m x_reader_ 1) i)) x = false := by
                  cases hk : k_is (m x_reader_bytes_) (k_pl (m x_reader_bytes_) (m x_reader_ 1) i) (k_en (m x_reader_bytes_) (m x_reader_ 1) (k_pl (m x_reader_bytes_) (m x_reader_ 1) i)) x with
                  | false => rfl
                  | true => have z := (k_ist.mp hk).1; rcases hI with ⟨h, h2, hI⟩ | ⟨h, hI⟩
                            · omega
                            · rw [hI] at hk; cases hk
                have z : k_wi (m x_reader_bytes_) (k_pl (m x_reader_bytes_) (m x_reader_ 1) i) (k_en (m x_reader_bytes_) (m x_reader_ 1) (k_pl (m x_reader_bytes_) (m x_reader_ 1) i)) (x :: t) w = k_wi (m x_reader_bytes_) (k_pl (m x_reader_bytes_) (m x_reader_ 1) i) (k_en (m x_reader_bytes_) (m x_reader_ 1) (k_pl (m x_reader_bytes_) (m x_reader_ 1) i)) t (w + 1) := by show (if k_is (m x_reader_bytes_) (k_pl (m x_reader_bytes_) (m x_reader_ 1) i) (k_en (m x_reader_bytes_) (m x_reader_ 1) (k_pl (m x_reader_bytes_) (m x_reader_ 1) i)) x = true then w else _) = _; rw [if_neg (by rw [hk]; decide)]
                rw [z] at hQ
                rw [show o + q + 1 = o + (x.length : Int) + 1 by omega]
                exact ihw _ _ ht.2.2.2 hQ (by omega)
              · refine And.intro (fun (c4 : az ≠ (k_en (m x_reader_bytes_) (m x_reader_ 1) (k_pl (m x_reader_bytes_) (m x_reader_ 1) i))) => ?_) (fun (c4 : ¬ (az ≠ (k_en (m x_reader_bytes_) (m x_reader_ 1) (k_pl (m x_reader_bytes_) (m x_reader_ 1) i)))) => ?_)
                · refine And.intro (show -2147483648 ≤ w + 1 ∧ w + 1 < 2147483648 by omega) ?_
                  refine And.intro (show -2147483648 ≤ (o + q) + 1 ∧ (o + q) + 1 < 2147483648 by omega) ?_
                  show cw_R _ _ 13 [vr x_reader_, vr 8388620, vi (w + 1), vi (k_pl (m x_reader_bytes_) (m x_reader_ 1) i), vi 1, vi ((o + q) + 1)] [] (q_m m co hd fi se te re fa (k_pl (m x_reader_bytes_) (m x_reader_ 1) i) (k_en (m x_reader_bytes_) (m x_reader_ 1) (k_pl (m x_reader_bytes_) (m x_reader_ 1) i)) pa op cl sz) _
                  have hq : q = (x.length : Int) := by
                    rcases cq with cq | cq <;> omega
                  have hk : k_is (m x_reader_bytes_) (k_pl (m x_reader_bytes_) (m x_reader_ 1) i) (k_en (m x_reader_bytes_) (m x_reader_ 1) (k_pl (m x_reader_bytes_) (m x_reader_ 1) i)) x = false := by
                    cases hk : k_is (m x_reader_bytes_) (k_pl (m x_reader_bytes_) (m x_reader_ 1) i) (k_en (m x_reader_bytes_) (m x_reader_ 1) (k_pl (m x_reader_bytes_) (m x_reader_ 1) i)) x with
                    | false => rfl
                    | true => have z := (k_ist.mp hk).1; rcases hI with ⟨h, h2, hI⟩ | ⟨h, hI⟩
                              · omega
                              · rw [hI] at hk; cases hk
                  have z : k_wi (m x_reader_bytes_) (k_pl (m x_reader_bytes_) (m x_reader_ 1) i) (k_en (m x_reader_bytes_) (m x_reader_ 1) (k_pl (m x_reader_bytes_) (m x_reader_ 1) i)) (x :: t) w = k_wi (m x_reader_bytes_) (k_pl (m x_reader_bytes_) (m x_reader_ 1) i) (k_en (m x_reader_bytes_) (m x_reader_ 1) (k_pl (m x_reader_bytes_) (m x_reader_ 1) i)) t (w + 1) := by show (if k_is (m x_reader_bytes_) (k_pl (m x_reader_bytes_) (m x_reader_ 1) i) (k_en (m x_reader_bytes_) (m x_reader_ 1) (k_pl (m x_reader_bytes_) (m x_reader_ 1) i)) x = true then w else _) = _; rw [if_neg (by rw [hk]; decide)]
                  rw [z] at hQ
                  rw [show o + q + 1 = o + (x.length : Int) + 1 by omega]
                  exact ihw _ _ ht.2.2.2 hQ (by omega)
                · show Q (some (vi w)) (q_m m co hd fi se te re fa (k_pl (m x_reader_bytes_) (m x_reader_ 1) i) (k_en (m x_reader_bytes_) (m x_reader_ 1) (k_pl (m x_reader_bytes_) (m x_reader_ 1) i)) pa op cl sz)
                  have hq : q = (x.length : Int) := by
                    rcases cq with cq | cq <;> omega
                  have hk : k_is (m x_reader_bytes_) (k_pl (m x_reader_bytes_) (m x_reader_ 1) i) (k_en (m x_reader_bytes_) (m x_reader_ 1) (k_pl (m x_reader_bytes_) (m x_reader_ 1) i)) x = true := by
                    rcases hI with ⟨h, h2, hI⟩ | ⟨h, hI⟩
                    · exact k_ist.mpr ⟨by omega, fun q' hq' => (hI q' (by omega)).2⟩
                    · omega
                  have z : k_wi (m x_reader_bytes_) (k_pl (m x_reader_bytes_) (m x_reader_ 1) i) (k_en (m x_reader_bytes_) (m x_reader_ 1) (k_pl (m x_reader_bytes_) (m x_reader_ 1) i)) (x :: t) w = w := by show (if k_is (m x_reader_bytes_) (k_pl (m x_reader_bytes_) (m x_reader_ 1) i) (k_en (m x_reader_bytes_) (m x_reader_ 1) (k_pl (m x_reader_bytes_) (m x_reader_ 1) i)) x = true then w else _) = _; rw [if_pos hk]
                  rw [z] at hQ
                  exact hQ
            · show cw_C _ _ [vr 8388620, vi (o + q)] (q_m m co hd fi se te re fa (k_pl (m x_reader_bytes_) (m x_reader_ 1) i) (k_en (m x_reader_bytes_) (m x_reader_ 1) (k_pl (m x_reader_bytes_) (m x_reader_ 1) i)) pa op cl sz) _
              refine Js_charAt (B := 19923115) rfl hs1 hs0 rfl (show 0 ≤ o + q ∧ o + q < 2 by omega) (show 0 ≤ m 19923115 (o + q) ∧ m 19923115 (o + q) < 128 by rcases cq with cq | cq <;> omega) ⟨hm, ?_⟩
              refine And.intro (fun (c5 : m 19923115 (o + q) ≠ 32) => ?_) (fun (c5 : ¬ (m 19923115 (o + q) ≠ 32)) => ?_)
              · refine And.intro (fun (c6 : same = 0) => ?_) (fun (c6 : ¬ (same = 0)) => ?_)
                · refine And.intro (show -2147483648 ≤ (o + q) + 1 ∧ (o + q) + 1 < 2147483648 by omega) ?_
                  show cw_R _ _ 13 [vr x_reader_, vr 8388620, vi w, vi az, vi same, vi ((o + q) + 1)] [] (q_m m co hd fi se te re fa (k_pl (m x_reader_bytes_) (m x_reader_ 1) i) (k_en (m x_reader_bytes_) (m x_reader_ 1) (k_pl (m x_reader_bytes_) (m x_reader_ 1) i)) pa op cl sz) _
                  rw [show o + q + 1 = o + (q + 1) by omega]
                  refine ih (q + 1) _ _ (by omega) (by omega) (Or.inr ⟨by omega, ?_⟩)
                  cases hk : k_is (m x_reader_bytes_) (k_pl (m x_reader_bytes_) (m x_reader_ 1) i) (k_en (m x_reader_bytes_) (m x_reader_ 1) (k_pl (m x_reader_bytes_) (m x_reader_ 1) i)) x with
                  | false => rfl
                  | true =>
                    exfalso
                    rcases hI with ⟨h, h2, hI⟩ | ⟨h, hI⟩
                    · have z := k_ist.mp hk; have z2 := z.2 q.toNat (by rcases cq with cq | cq <;> omega); have c2 := ht.1 q.toNat (by rcases cq with cq | cq <;> omega); rw [show o + ((q.toNat : Nat) : Int) = o + q by omega] at c2; rw [show (k_pl (m x_reader_bytes_) (m x_reader_ 1) i) + ((q.toNat : Nat) : Int) = az by omega] at z2; rcases cq with cq | cq <;> omega
                    · rw [hI] at hk; cases hk
                · refine And.intro (fun (c7 : (k_en (m x_reader_bytes_) (m x_reader_ 1) (k_pl (m x_reader_bytes_) (m x_reader_ 1) i)) ≤ az) => ?_) (fun (c7 : ¬ ((k_en (m x_reader_bytes_) (m x_reader_ 1) (k_pl (m x_reader_bytes_) (m x_reader_ 1) i)) ≤ az)) => ?_)
                  · refine And.intro (show -2147483648 ≤ az + 1 ∧ az + 1 < 2147483648 by omega) ?_
                    refine And.intro (show -2147483648 ≤ (o + q) + 1 ∧ (o + q) + 1 < 2147483648 by omega) ?_
                    show cw_R _ _ 13 [vr x_reader_, vr 8388620, vi w, vi (az + 1), vi 0, vi ((o + q) + 1)] [] (q_m m co hd fi se te re fa (k_pl (m x_reader_bytes_) (m x_reader_ 1) i) (k_en (m x_reader_bytes_) (m x_reader_ 1) (k_pl (m x_reader_bytes_) (m x_reader_ 1) i)) pa op cl sz) _
                    rw [show o + q + 1 = o + (q + 1) by omega]
                    refine ih (q + 1) _ _ (by omega) (by omega) (Or.inr ⟨rfl, ?_⟩)
                    cases hk : k_is (m x_reader_bytes_) (k_pl (m x_reader_bytes_) (m x_reader_ 1) i) (k_en (m x_reader_bytes_) (m x_reader_ 1) (k_pl (m x_reader_bytes_) (m x_reader_ 1) i)) x with
                    | false => rfl
                    | true =>
                      exfalso
                      rcases hI with ⟨h, h2, hI⟩ | ⟨h, hI⟩
                      · have z := k_ist.mp hk; have z2 := z.2 q.toNat (by rcases cq with cq | cq <;> omega); have c2 := ht.1 q.toNat (by rcases cq with cq | cq <;> omega); rw [show o + ((q.toNat : Nat) : Int) = o + q by omega] at c2; rw [show (k_pl (m x_reader_bytes_) (m x_reader_ 1) i) + ((q.toNat : Nat) : Int) = az by omega] at z2; rcases cq with cq | cq <;> omega
                      · rw [hI] at hk; cases hk
                  · refine And.intro (show 0 ≤ az ∧ az < 400 by omega) ?_
                    show cw_C _ _ [vr 8388620, vi (o + q)] (q_m m co hd fi se te re fa (k_pl (m x_reader_bytes_) (m x_reader_ 1) i) (k_en (m x_reader_bytes_) (m x_reader_ 1) (k_pl (m x_reader_bytes_) (m x_reader_ 1) i)) pa op cl sz) _
                    refine Js_charAt (B := 19923115) rfl hs1 hs0 rfl (show 0 ≤ o + q ∧ o + q < 2 by omega) (show 0 ≤ m 19923115 (o + q) ∧ m 19923115 (o + q) < 128 by rcases cq with cq | cq <;> omega) ⟨hm, ?_⟩
                    refine And.intro (fun (c8 : m x_reader_bytes_ az ≠ m 19923115 (o + q)) => ?_) (fun (c8 : ¬ (m x_reader_bytes_ az ≠ m 19923115 (o + q))) => ?_)
                    · refine And.intro (show -2147483648 ≤ az + 1 ∧ az + 1 < 2147483648 by omega) ?_
                      refine And.intro (show -2147483648 ≤ (o + q) + 1 ∧ (o + q) + 1 < 2147483648 by omega) ?_
                      show cw_R _ _ 13 [vr x_reader_, vr 8388620, vi w, vi (az + 1), vi 0, vi ((o + q) + 1)] [] (q_m m co hd fi se te re fa (k_pl (m x_reader_bytes_) (m x_reader_ 1) i) (k_en (m x_reader_bytes_) (m x_reader_ 1) (k_pl (m x_reader_bytes_) (m x_reader_ 1) i)) pa op cl sz) _
                      rw [show o + q + 1 = o + (q + 1) by omega]
                      refine ih (q + 1) _ _ (by omega) (by omega) (Or.inr ⟨rfl, ?_⟩)
                      cases hk : k_is (m x_reader_bytes_) (k_pl (m x_reader_bytes_) (m x_reader_ 1) i) (k_en (m x_reader_bytes_) (m x_reader_ 1) (k_pl (m x_reader_bytes_) (m x_reader_ 1) i)) x with
                      | false => rfl
                      | true =>
                        exfalso
                        rcases hI with ⟨h, h2, hI⟩ | ⟨h, hI⟩
                        · have z := k_ist.mp hk; have z2 := z.2 q.toNat (by rcases cq with cq | cq <;> omega); have c2 := ht.1 q.toNat (by rcases cq with cq | cq <;> omega); rw [show o + ((q.toNat : Nat) : Int) = o + q by omega] at c2; rw [show (k_pl (m x_reader_bytes_) (m x_reader_ 1) i) + ((q.toNat : Nat) : Int) = az by omega] at z2; rcases cq with cq | cq <;> omega
                        · rw [hI] at hk; cases hk
                    · refine And.intro (show -2147483648 ≤ az + 1 ∧ az + 1 < 2147483648 by omega) ?_
                      refine And.intro (show -2147483648 ≤ (o + q) + 1 ∧ (o + q) + 1 < 2147483648 by omega) ?_
                      show cw_R _ _ 13 [vr x_reader_, vr 8388620, vi w, vi (az + 1), vi 1, vi ((o + q) + 1)] [] (q_m m co hd fi se te re fa (k_pl (m x_reader_bytes_) (m x_reader_ 1) i) (k_en (m x_reader_bytes_) (m x_reader_ 1) (k_pl (m x_reader_bytes_) (m x_reader_ 1) i)) pa op cl sz) _
                      rw [show o + q + 1 = o + (q + 1) by omega]
                      refine ih (q + 1) _ _ (by omega) (by omega) ?_
                      rcases hI with ⟨h, h2, hI⟩ | ⟨h, hI⟩
                      · refine Or.inl ⟨rfl, by omega, fun q' hq' => ?_⟩
                        by_cases e2 : (q' : Int) = q
                        · have c2 := ht.1 q.toNat (by rcases cq with cq | cq <;> omega); rw [show o + ((q.toNat : Nat) : Int) = o + q by omega] at c2; rw [show q' = q.toNat by omega, show (k_pl (m x_reader_bytes_) (m x_reader_ 1) i) + ((q.toNat : Nat) : Int) = az by omega]; omega
                        · exact hI q' (by omega)
                      · omega
              · refine And.intro (fun (c9 : same = 0) => ?_) (fun (c9 : ¬ (same = 0)) => ?_)
                · refine And.intro (show -2147483648 ≤ w + 1 ∧ w + 1 < 2147483648 by omega) ?_
                  refine And.intro (show -2147483648 ≤ (o + q) + 1 ∧ (o + q) + 1 < 2147483648 by omega) ?_
                  show cw_R _ _ 13 [vr x_reader_, vr 8388620, vi (w + 1), vi (k_pl (m x_reader_bytes_) (m x_reader_ 1) i), vi 1, vi ((o + q) + 1)] [] (q_m m co hd fi se te re fa (k_pl (m x_reader_bytes_) (m x_reader_ 1) i) (k_en (m x_reader_bytes_) (m x_reader_ 1) (k_pl (m x_reader_bytes_) (m x_reader_ 1) i)) pa op cl sz) _
                  have hq : q = (x.length : Int) := by
                    rcases cq with cq | cq <;> omega
                  have hk : k_is (m x_reader_bytes_) (k_pl (m x_reader_bytes_) (m x_reader_ 1) i) (k_en (m x_reader_bytes_) (m x_reader_ 1) (k_pl (m x_reader_bytes_) (m x_reader_ 1) i)) x = false := by
                    cases hk : k_is (m x_reader_bytes_) (k_pl (m x_reader_bytes_) (m x_reader_ 1) i) (k_en (m x_reader_bytes_) (m x_reader_ 1) (k_pl (m x_reader_bytes_) (m x_reader_ 1) i)) x with
                    | false => rfl
                    | true => have z := (k_ist.mp hk).1; rcases hI with ⟨h, h2, hI⟩ | ⟨h, hI⟩
                              · omega
                              · rw [hI] at hk; cases hk
                  have z : k_wi (m x_reader_bytes_) (k_pl (m x_reader_bytes_) (m x_reader_ 1) i) (k_en (m x_reader_bytes_) (m x_reader_ 1) (k_pl (m x_reader_bytes_) (m x_reader_ 1) i)) (x :: t) w = k_wi (m x_reader_bytes_) (k_pl (m x_reader_bytes_) (m x_reader_ 1) i) (k_en (m x_reader_bytes_) (m x_reader_ 1) (k_pl (m x_reader_bytes_) (m x_reader_ 1) i)) t (w + 1) := by show (if k_is (m x_reader_bytes_) (k_pl (m x_reader_bytes_) (m x_reader_ 1) i) (k_en (m x_reader_bytes_) (m x_reader_ 1) (k_pl (m x_reader_bytes_) (m x_reader_ 1) i)) x = true then w else _) = _; rw [if_neg (by rw [hk]; decide)]
                  rw [z] at hQ
                  rw [show o + q + 1 = o + (x.length : Int) + 1 by omega]
                  exact ihw _ _ ht.2.2.2 hQ (by omega)
                · refine And.intro (fun (c10 : az ≠ (k_en (m x_reader_bytes_) (m x_reader_ 1) (k_pl (m x_reader_bytes_) (m x_reader_ 1) i))) => ?_) (fun (c10 : ¬ (az ≠ (k_en (m x_reader_bytes_) (m x_reader_ 1) (k_pl (m x_reader_bytes_) (m x_reader_ 1) i)))) => ?_)
                  · refine And.intro (show -2147483648 ≤ w + 1 ∧ w + 1 < 2147483648 by omega) ?_
                    refine And.intro (show -2147483648 ≤ (o + q) + 1 ∧ (o + q) + 1 < 2147483648 by omega) ?_
                    show cw_R _ _ 13 [vr x_reader_, vr 8388620, vi (w + 1), vi (k_pl (m x_reader_bytes_) (m x_reader_ 1) i), vi 1, vi ((o + q) + 1)] [] (q_m m co hd fi se te re fa (k_pl (m x_reader_bytes_) (m x_reader_ 1) i) (k_en (m x_reader_bytes_) (m x_reader_ 1) (k_pl (m x_reader_bytes_) (m x_reader_ 1) i)) pa op cl sz) _
                    have hq : q = (x.length : Int) := by
                      rcases cq with cq | cq <;> omega
                    have hk : k_is (m x_reader_bytes_) (k_pl (m x_reader_bytes_) (m x_reader_ 1) i) (k_en (m x_reader_bytes_) (m x_reader_ 1) (k_pl (m x_reader_bytes_) (m x_reader_ 1) i)) x = false := by
                      cases hk : k_is (m x_reader_bytes_) (k_pl (m x_reader_bytes_) (m x_reader_ 1) i) (k_en (m x_reader_bytes_) (m x_reader_ 1) (k_pl (m x_reader_bytes_) (m x_reader_ 1) i)) x with
                      | false => rfl
                      | true => have z := (k_ist.mp hk).1; rcases hI with ⟨h, h2, hI⟩ | ⟨h, hI⟩
                                · omega
                                · rw [hI] at hk; cases hk
                    have z : k_wi (m x_reader_bytes_) (k_pl (m x_reader_bytes_) (m x_reader_ 1) i) (k_en (m x_reader_bytes_) (m x_reader_ 1) (k_pl (m x_reader_bytes_) (m x_reader_ 1) i)) (x :: t) w = k_wi (m x_reader_bytes_) (k_pl (m x_reader_bytes_) (m x_reader_ 1) i) (k_en (m x_reader_bytes_) (m x_reader_ 1) (k_pl (m x_reader_bytes_) (m x_reader_ 1) i)) t (w + 1) := by show (if k_is (m x_reader_bytes_) (k_pl (m x_reader_bytes_) (m x_reader_ 1) i) (k_en (m x_reader_bytes_) (m x_reader_ 1) (k_pl (m x_reader_bytes_) (m x_reader_ 1) i)) x = true then w else _) = _; rw [if_neg (by rw [hk]; decide)]
                    rw [z] at hQ
                    rw [show o + q + 1 = o + (x.length : Int) + 1 by omega]
                    exact ihw _ _ ht.2.2.2 hQ (by omega)
                  · show Q (some (vi w)) (q_m m co hd fi se te re fa (k_pl (m x_reader_bytes_) (m x_reader_ 1) i) (k_en (m x_reader_bytes_) (m x_reader_ 1) (k_pl (m x_reader_bytes_) (m x_reader_ 1) i)) pa op cl sz)
                    have hq : q = (x.length : Int) := by
                      rcases cq with cq | cq <;> omega
                    have hk : k_is (m x_reader_bytes_) (k_pl (m x_reader_bytes_) (m x_reader_ 1) i) (k_en (m x_reader_bytes_) (m x_reader_ 1) (k_pl (m x_reader_bytes_) (m x_reader_ 1) i)) x = true := by
                      rcases hI with ⟨h, h2, hI⟩ | ⟨h, hI⟩
                      · exact k_ist.mpr ⟨by omega, fun q' hq' => (hI q' (by omega)).2⟩
                      · omega
                    have z : k_wi (m x_reader_bytes_) (k_pl (m x_reader_bytes_) (m x_reader_ 1) i) (k_en (m x_reader_bytes_) (m x_reader_ 1) (k_pl (m x_reader_bytes_) (m x_reader_ 1) i)) (x :: t) w = w := by show (if k_is (m x_reader_bytes_) (k_pl (m x_reader_bytes_) (m x_reader_ 1) i) (k_en (m x_reader_bytes_) (m x_reader_ 1) (k_pl (m x_reader_bytes_) (m x_reader_ 1) i)) x = true then w else _) = _; rw [if_pos hk]
                    rw [z] at hQ
                    exact hQ
      have z := lw (x.length + 1) 0 (k_pl (m x_reader_bytes_) (m x_reader_ 1) i) 1 (by omega) (by omega) (Or.inl ⟨rfl, by omega, fun q' hq' => by omega⟩)
      rw [show o + 0 = o by omega] at z
      exact z
  refine la_go_C hm 12 [13] ?_
  show cw_R _ _ 13 [vr x_reader_, vr 8388620, vi 0, vi (k_pl (m x_reader_bytes_) (m x_reader_ 1) i), vi 1, vi 0] [] (q_m m co hd fi se te re fa (k_pl (m x_reader_bytes_) (m x_reader_ 1) i) (k_en (m x_reader_bytes_) (m x_reader_ 1) (k_pl (m x_reader_bytes_) (m x_reader_ 1) i)) pa op cl sz) _
  exact main _ 0 0 hstr h (by decide)
theorem Re_wordIn5 {d : Nat} {m : cw_M} {Q : Option cw_V → cw_M → Prop} (hm0 : la_ok m) (hn : 0 ≤ m x_reader_ 1 ∧ m x_reader_ 1 ≤ 400) (hb : ∀ i, 0 ≤ i → i < m x_reader_ 1 → 0 ≤ m x_reader_bytes_ i ∧ m x_reader_bytes_ i ≤ 255) (hs0 : m 9437196 0 = 20971883) (hs1 : m 9437196 1 = 0) (hstr : k_str (m 20971883) 5 0 [[116, 105, 109, 101, 115]]) {co hd fi se te re : Int → Int} {fa st sp pa op cl sz : Int} {i : Nat} (h : Q (some (vi (k_wi (m x_reader_bytes_) (k_pl (m x_reader_bytes_) (m x_reader_ 1) i) (k_en (m x_reader_bytes_) (m x_reader_ 1) (k_pl (m x_reader_bytes_) (m x_reader_ 1) i)) [[116, 105, 109, 101, 115]] 0))) (q_m m co hd fi se te re fa (k_pl (m x_reader_bytes_) (m x_reader_ 1) i) (k_en (m x_reader_bytes_) (m x_reader_ 1) (k_pl (m x_reader_bytes_) (m x_reader_ 1) i)) pa op cl sz)) : cw_C (d + 4) k_Re_wordIn [vr x_reader_, vr 9437196] (q_m m co hd fi se te re fa (k_pl (m x_reader_bytes_) (m x_reader_ 1) i) (k_en (m x_reader_bytes_) (m x_reader_ 1) (k_pl (m x_reader_bytes_) (m x_reader_ 1) i)) pa op cl sz) Q := by
  have hm : la_ok (q_m m co hd fi se te re fa (k_pl (m x_reader_bytes_) (m x_reader_ 1) i) (k_en (m x_reader_bytes_) (m x_reader_ 1) (k_pl (m x_reader_bytes_) (m x_reader_ 1) i)) pa op cl sz) := q_m_ok hm0
  have pr := k_plr (b := (m x_reader_bytes_)) hn.1 i
  have er := Re_enr (b := (m x_reader_bytes_)) hn.1 i
  have main : ∀ (ws : List (List Int)) (o w : Int), k_str (m 20971883) 5 o ws → Q (some (vi (k_wi (m x_reader_bytes_) (k_pl (m x_reader_bytes_) (m x_reader_ 1) i) (k_en (m x_reader_bytes_) (m x_reader_ 1) (k_pl (m x_reader_bytes_) (m x_reader_ 1) i)) ws w))) (q_m m co hd fi se te re fa (k_pl (m x_reader_bytes_) (m x_reader_ 1) i) (k_en (m x_reader_bytes_) (m x_reader_ 1) (k_pl (m x_reader_bytes_) (m x_reader_ 1) i)) pa op cl sz) → (0 ≤ w ∧ w + ws.length < 1000) → cw_R (d + 4) k_Re_wordIn 13 [vr x_reader_, vr 9437196, vi w, vi (k_pl (m x_reader_bytes_) (m x_reader_ 1) i), vi 1, vi o] [] (q_m m co hd fi se te re fa (k_pl (m x_reader_bytes_) (m x_reader_ 1) i) (k_en (m x_reader_bytes_) (m x_reader_ 1) (k_pl (m x_reader_bytes_) (m x_reader_ 1) i)) pa op cl sz) Q := by
    intro ws
    induction ws with
    | nil =>
      intro o w ht hQ hw
      have ht : o = 5 + 1 := ht
      refine la_go_R hm 9 [] ?_
      show cw_C _ _ [vr 9437196] (q_m m co hd fi se te re fa (k_pl (m x_reader_bytes_) (m x_reader_ 1) i) (k_en (m x_reader_bytes_) (m x_reader_ 1) (k_pl (m x_reader_bytes_) (m x_reader_ 1) i)) pa op cl sz) _
      refine Js_length (L := 5) rfl hs1 (by show cw_ln (m 9437196 0) = _; rw [hs0]; rfl) (by decide) (by show 40 ≤ cw_tg (m 9437196 0); rw [hs0]; decide) ⟨hm, ?_⟩
      refine br_t (show 5 < o by omega) ?_
      show Q (some (vi (-1))) (q_m m co hd fi se te re fa (k_pl (m x_reader_bytes_) (m x_reader_ 1) i) (k_en (m x_reader_bytes_) (m x_reader_ 1) (k_pl (m x_reader_bytes_) (m x_reader_ 1) i)) pa op cl sz)
      exact hQ
    | cons x t ihw =>
      intro o w ht hQ hw
      have hwl : w + (x :: t).length = w + 1 + t.length := by rw [List.length_cons]; omega
      have ht : (∀ q : Nat, q < x.length → m 20971883 (o + q) = x.getD q 0 ∧ x.getD q 0 ≠ 32 ∧ 0 ≤ x.getD q 0 ∧ x.getD q 0 < 128) ∧ (o + (x.length : Int) = 5 ∨ (o + (x.length : Int) < 5 ∧ m 20971883 (o + (x.length : Int)) = 32)) ∧ 0 ≤ o ∧ k_str (m 20971883) 5 (o + (x.length : Int) + 1) t := ht
      have ho := ht.2.2.1
      have hxl := ht.2.1
      have lw : ∀ (r : Nat) (q az same : Int), (x.length : Int) < q + r → (0 ≤ q ∧ q ≤ (x.length : Int)) → ((same = 1 ∧ az = (k_pl (m x_reader_bytes_) (m x_reader_ 1) i) + q ∧ ∀ q' : Nat, (q' : Int) < q → (k_pl (m x_reader_bytes_) (m x_reader_ 1) i) + q' < (k_en (m x_reader_bytes_) (m x_reader_ 1) (k_pl (m x_reader_bytes_) (m x_reader_ 1) i)) ∧ m x_reader_bytes_ ((k_pl (m x_reader_bytes_) (m x_reader_ 1) i) + q') = x.getD q' 0) ∨ (same = 0 ∧ k_is (m x_reader_bytes_) (k_pl (m x_reader_bytes_) (m x_reader_ 1) i) (k_en (m x_reader_bytes_) (m x_reader_ 1) (k_pl (m x_reader_bytes_) (m x_reader_ 1) i)) x = false)) → cw_R (d + 4) k_Re_wordIn 13 [vr x_reader_, vr 9437196, vi w, vi az, vi same, vi (o + q)] [] (q_m m co hd fi se te re fa (k_pl (m x_reader_bytes_) (m x_reader_ 1) i) (k_en (m x_reader_bytes_) (m x_reader_ 1) (k_pl (m x_reader_bytes_) (m x_reader_ 1) i)) pa op cl sz) Q := by
        intro r
        induction r with
        | zero =>
          intro q az same hr hq0 hI
          omega
        | succ r ih =>
          intro q az same hr hq0 hI
          have cq : (q = (x.length : Int) ∧ (o + q = 5 ∨ (o + q < 5 ∧ m 20971883 (o + q) = 32))) ∨ (q < (x.length : Int) ∧ o + q < 5 ∧ m 20971883 (o + q) ≠ 32 ∧ 0 ≤ m 20971883 (o + q) ∧ m 20971883 (o + q) < 128) := by
            by_cases z : q = (x.length : Int)
            · left; rw [z]; exact ⟨rfl, ht.2.1⟩
            · right; have c2 := ht.1 q.toNat (by omega); rw [show o + ((q.toNat : Nat) : Int) = o + q by omega] at c2; have c3 := ht.2.1; omega
          have ba : az < (k_en (m x_reader_bytes_) (m x_reader_ 1) (k_pl (m x_reader_bytes_) (m x_reader_ 1) i)) → (k_pl (m x_reader_bytes_) (m x_reader_ 1) i) ≤ az → 0 ≤ m x_reader_bytes_ az ∧ m x_reader_bytes_ az ≤ 255 := fun a c => hb az (by omega) (by omega)
          have hat : same = 1 → (k_pl (m x_reader_bytes_) (m x_reader_ 1) i) ≤ az := fun h => by rcases hI with ⟨-, h2, -⟩ | ⟨h2, -⟩ <;> omega
          have hsm : same = 0 ∨ same = 1 := by rcases hI with ⟨h2, -, -⟩ | ⟨h2, -⟩ <;> omega
          have hat9 : same = 1 → az = (k_pl (m x_reader_bytes_) (m x_reader_ 1) i) + q := fun h => by rcases hI with ⟨-, h2, -⟩ | ⟨h2, -⟩ <;> omega
          refine la_go_R hm 36 [13] ?_
          show cw_C _ _ [vr 9437196] (q_m m co hd fi se te re fa (k_pl (m x_reader_bytes_) (m x_reader_ 1) i) (k_en (m x_reader_bytes_) (m x_reader_ 1) (k_pl (m x_reader_bytes_) (m x_reader_ 1) i)) pa op cl sz) _
          refine Js_length (L := 5) rfl hs1 (by show cw_ln (m 9437196 0) = _; rw [hs0]; rfl) (by decide) (by show 40 ≤ cw_tg (m 9437196 0); rw [hs0]; decide) ⟨hm, ?_⟩
          refine And.intro (fun (c1 : 5 < o + q) => ?_) (fun (c1 : ¬ (5 < o + q)) => ?_)
          · show Q (some (vi (-1))) (q_m m co hd fi se te re fa (k_pl (m x_reader_bytes_) (m x_reader_ 1) i) (k_en (m x_reader_bytes_) (m x_reader_ 1) (k_pl (m x_reader_bytes_) (m x_reader_ 1) i)) pa op cl sz)
            exfalso
            rcases cq with cq | cq <;> omega
          · show cw_C _ _ [vr 9437196] (q_m m co hd fi se te re fa (k_pl (m x_reader_bytes_) (m x_reader_ 1) i) (k_en (m x_reader_bytes_) (m x_reader_ 1) (k_pl (m x_reader_bytes_) (m x_reader_ 1) i)) pa op cl sz) _
            refine Js_length (L := 5) rfl hs1 (by show cw_ln (m 9437196 0) = _; rw [hs0]; rfl) (by decide) (by show 40 ≤ cw_tg (m 9437196 0); rw [hs0]; decide) ⟨hm, ?_⟩
            refine And.intro (fun (c2 : o + q = 5) => ?_) (fun (c2 : ¬ (o + q = 5)) => ?_)
            · refine And.intro (fun (c3 : same = 0) => ?_) (fun (c3 : ¬ (same = 0)) => ?_)
              · refine And.intro (show -2147483648 ≤ w + 1 ∧ w + 1 < 2147483648 by omega) ?_
                refine And.intro (show -2147483648 ≤ (o + q) + 1 ∧ (o + q) + 1 < 2147483648 by omega) ?_
                show cw_R _ _ 13 [vr x_reader_, vr 9437196, vi (w + 1), vi (k_pl (m x_reader_bytes_) (m x_reader_ 1) i), vi 1, vi ((o + q) + 1)] [] (q_m m co hd fi se te re fa (k_pl (m x_reader_bytes_) (m x_reader_ 1) i) (k_en (m x_reader_bytes_) (m x_reader_ 1) (k_pl (m x_reader_bytes_) (m x_reader_ 1) i)) pa op cl sz) _
                have hq : q = (x.length : Int) := by
                  rcases cq with cq | cq <;> omega
                have hk : k_is (m x_reader_bytes_) (k_pl (m x_reader_bytes_) (m x_reader_ 1) i) (k_en (m x_reader_bytes_) (m x_reader_ 1) (k_pl (m x_reader_bytes_) (m x_reader_ 1) i)) x = false := by
                  cases hk : k_is (m x_reader_bytes_) (k_pl (m x_reader_bytes_) (m x_reader_ 1) i) (k_en (m x_reader_bytes_) (m x_reader_ 1) (k_pl (m x_reader_bytes_) (m x_reader_ 1) i)) x with
                  | false => rfl
                  | true => have z := (k_ist.mp hk).1; rcases hI with ⟨h, h2, hI⟩ | ⟨h, hI⟩
                            · omega
                            · rw [hI] at hk; cases hk
                have z : k_wi (m x_reader_bytes_) (k_pl (m x_reader_bytes_) (m x_reader_ 1) i) (k_en (m x_reader_bytes_) (m x_reader_ 1) (k_pl (m x_reader_bytes_) (m x_reader_ 1) i)) (x :: t) w = k_wi (m x_reader_bytes_) (k_pl (m x_reader_bytes_) (m x_reader_ 1) i) (k_en (m x_reader_bytes_) (m x_reader_ 1) (k_pl (m x_reader_bytes_) (m x_reader_ 1) i)) t (w + 1) := by show (if k_is (m x_reader_bytes_) (k_pl (m x_reader_bytes_) (m x_reader_ 1) i) (k_en (m x_reader_bytes_) (m x_reader_ 1) (k_pl (m x_reader_bytes_) (m x_reader_ 1) i)) x = true then w else _) = _; rw [if_neg (by rw [hk]; decide)]
                rw [z] at hQ
                rw [show o + q + 1 = o + (x.length : Int) + 1 by omega]
                exact ihw _ _ ht.2.2.2 hQ (by omega)
              · refine And.intro (fun (c4 : az ≠ (k_en (m x_reader_bytes_) (m x_reader_ 1) (k_pl (m x_reader_bytes_) (m x_reader_ 1) i))) => ?_) (fun (c4 : ¬ (az ≠ (k_en (m x_reader_bytes_) (m x_reader_ 1) (k_pl (m x_reader_bytes_) (m x_reader_ 1) i)))) => ?_)
                · refine And.intro (show -2147483648 ≤ w + 1 ∧ w + 1 < 2147483648 by omega) ?_
                  refine And.intro (show -2147483648 ≤ (o + q) + 1 ∧ (o + q) + 1 < 2147483648 by omega) ?_
                  show cw_R _ _ 13 [vr x_reader_, vr 9437196, vi (w + 1), vi (k_pl (m x_reader_bytes_) (m x_reader_ 1) i), vi 1, vi ((o + q) + 1)] [] (q_m m co hd fi se te re fa (k_pl (m x_reader_bytes_) (m x_reader_ 1) i) (k_en (m x_reader_bytes_) (m x_reader_ 1) (k_pl (m x_reader_bytes_) (m x_reader_ 1) i)) pa op cl sz) _
                  have hq : q = (x.length : Int) := by
                    rcases cq with cq | cq <;> omega
                  have hk : k_is (m x_reader_bytes_) (k_pl (m x_reader_bytes_) (m x_reader_ 1) i) (k_en (m x_reader_bytes_) (m x_reader_ 1) (k_pl (m x_reader_bytes_) (m x_reader_ 1) i)) x = false := by
                    cases hk : k_is (m x_reader_bytes_) (k_pl (m x_reader_bytes_) (m x_reader_ 1) i) (k_en (m x_reader_bytes_) (m x_reader_ 1) (k_pl (m x_reader_bytes_) (m x_reader_ 1) i)) x with
                    | false => rfl
                    | true => have z := (k_ist.mp hk).1; rcases hI with ⟨h, h2, hI⟩ | ⟨h, hI⟩
                              · omega
                              · rw [hI] at hk; cases hk
                  have z : k_wi (m x_reader_bytes_) (k_pl (m x_reader_bytes_) (m x_reader_ 1) i) (k_en (m x_reader_bytes_) (m x_reader_ 1) (k_pl (m x_reader_bytes_) (m x_reader_ 1) i)) (x :: t) w = k_wi (m x_reader_bytes_) (k_pl (m x_reader_bytes_) (m x_reader_ 1) i) (k_en (m x_reader_bytes_) (m x_reader_ 1) (k_pl (m x_reader_bytes_) (m x_reader_ 1) i)) t (w + 1) := by show (if k_is (m x_reader_bytes_) (k_pl (m x_reader_bytes_) (m x_reader_ 1) i) (k_en (m x_reader_bytes_) (m x_reader_ 1) (k_pl (m x_reader_bytes_) (m x_reader_ 1) i)) x = true then w else _) = _; rw [if_neg (by rw [hk]; decide)]
                  rw [z] at hQ
                  rw [show o + q + 1 = o + (x.length : Int) + 1 by omega]
                  exact ihw _ _ ht.2.2.2 hQ (by omega)
                · show Q (some (vi w)) (q_m m co hd fi se te re fa (k_pl (m x_reader_bytes_) (m x_reader_ 1) i) (k_en (m x_reader_bytes_) (m x_reader_ 1) (k_pl (m x_reader_bytes_) (m x_reader_ 1) i)) pa op cl sz)
                  have hq : q = (x.length : Int) := by
                    rcases cq with cq | cq <;> omega
                  have hk : k_is (m x_reader_bytes_) (k_pl (m x_reader_bytes_) (m x_reader_ 1) i) (k_en (m x_reader_bytes_) (m x_reader_ 1) (k_pl (m x_reader_bytes_) (m x_reader_ 1) i)) x = true := by
                    rcases hI with ⟨h, h2, hI⟩ | ⟨h, hI⟩
                    · exact k_ist.mpr ⟨by omega, fun q' hq' => (hI q' (by omega)).2⟩
                    · omega
                  have z : k_wi (m x_reader_bytes_) (k_pl (m x_reader_bytes_) (m x_reader_ 1) i) (k_en (m x_reader_bytes_) (m x_reader_ 1) (k_pl (m x_reader_bytes_) (m x_reader_ 1) i)) (x :: t) w = w := by show (if k_is (m x_reader_bytes_) (k_pl (m x_reader_bytes_) (m x_reader_ 1) i) (k_en (m x_reader_bytes_) (m x_reader_ 1) (k_pl (m x_reader_bytes_) (m x_reader_ 1) i)) x = true then w else _) = _; rw [if_pos hk]
                  rw [z] at hQ
                  exact hQ
            · show cw_C _ _ [vr 9437196, vi (o + q)] (q_m m co hd fi se te re fa (k_pl (m x_reader_bytes_) (m x_reader_ 1) i) (k_en (m x_reader_bytes_) (m x_reader_ 1) (k_pl (m x_reader_bytes_) (m x_reader_ 1) i)) pa op cl sz) _
              refine Js_charAt (B := 20971883) rfl hs1 hs0 rfl (show 0 ≤ o + q ∧ o + q < 5 by omega) (show 0 ≤ m 20971883 (o + q) ∧ m 20971883 (o + q) < 128 by rcases cq with cq | cq <;> omega) ⟨hm, ?_⟩
              refine And.intro (fun (c5 : m 20971883 (o + q) ≠ 32) => ?_) (fun (c5 : ¬ (m 20971883 (o + q) ≠ 32)) => ?_)
              · refine And.intro (fun (c6 : same = 0) => ?_) (fun (c6 : ¬ (same = 0)) => ?_)
                · refine And.intro (show -2147483648 ≤ (o + q) + 1 ∧ (o + q) + 1 < 2147483648 by omega) ?_
                  show cw_R _ _ 13 [vr x_reader_, vr 9437196, vi w, vi az, vi same, vi ((o + q) + 1)] [] (q_m m co hd fi se te re fa (k_pl (m x_reader_bytes_) (m x_reader_ 1) i) (k_en (m x_reader_bytes_) (m x_reader_ 1) (k_pl (m x_reader_bytes_) (m x_reader_ 1) i)) pa op cl sz) _
                  rw [show o + q + 1 = o + (q + 1) by omega]
                  refine ih (q + 1) _ _ (by omega) (by omega) (Or.inr ⟨by omega, ?_⟩)
                  cases hk : k_is (m x_reader_bytes_) (k_pl (m x_reader_bytes_) (m x_reader_ 1) i) (k_en (m x_reader_bytes_) (m x_reader_ 1) (k_pl (m x_reader_bytes_) (m x_reader_ 1) i)) x with
                  | false => rfl
                  | true =>
                    exfalso
                    rcases hI with ⟨h, h2, hI⟩ | ⟨h, hI⟩
                    · have z := k_ist.mp hk; have z2 := z.2 q.toNat (by rcases cq with cq | cq <;> omega); have c2 := ht.1 q.toNat (by rcases cq with cq | cq <;> omega); rw [show o + ((q.toNat : Nat) : Int) = o + q by omega] at c2; rw [show (k_pl (m x_reader_bytes_) (m x_reader_ 1) i) + ((q.toNat : Nat) : Int) = az by omega] at z2; rcases cq with cq | cq <;> omega
                    · rw [hI] at hk; cases hk
                · refine And.intro (fun (c7 : (k_en (m x_reader_bytes_) (m x_reader_ 1) (k_pl (m x_reader_bytes_) (m x_reader_ 1) i)) ≤ az) => ?_) (fun (c7 : ¬ ((k_en (m x_reader_bytes_) (m x_reader_ 1) (k_pl (m x_reader_bytes_) (m x_reader_ 1) i)) ≤ az)) => ?_)
                  · refine And.intro (show -2147483648 ≤ az + 1 ∧ az + 1 < 2147483648 by omega) ?_
                    refine And.intro (show -2147483648 ≤ (o + q) + 1 ∧ (o + q) + 1 < 2147483648 by omega) ?_
                    show cw_R _ _ 13 [vr x_reader_, vr 9437196, vi w, vi (az + 1), vi 0, vi ((o + q) + 1)] [] (q_m m co hd fi se te re fa (k_pl (m x_reader_bytes_) (m x_reader_ 1) i) (k_en (m x_reader_bytes_) (m x_reader_ 1) (k_pl (m x_reader_bytes_) (m x_reader_ 1) i)) pa op cl sz) _
                    rw [show o + q + 1 = o + (q + 1) by omega]
                    refine ih (q + 1) _ _ (by omega) (by omega) (Or.inr ⟨rfl, ?_⟩)
                    cases hk : k_is (m x_reader_bytes_) (k_pl (m x_reader_bytes_) (m x_reader_ 1) i) (k_en (m x_reader_bytes_) (m x_reader_ 1) (k_pl (m x_reader_bytes_) (m x_reader_ 1) i)) x with
                    | false => rfl
                    | true =>
                      exfalso
                      rcases hI with ⟨h, h2, hI⟩ | ⟨h, hI⟩
                      · have z := k_ist.mp hk; have z2 := z.2 q.toNat (by rcases cq with cq | cq <;> omega); have c2 := ht.1 q.toNat (by rcases cq with cq | cq <;> omega); rw [show o + ((q.toNat : Nat) : Int) = o + q by omega] at c2; rw [show (k_pl (m x_reader_bytes_) (m x_reader_ 1) i) + ((q.toNat : Nat) : Int) = az by omega] at z2; rcases cq with cq | cq <;> omega
                      · rw [hI] at hk; cases hk
                  · refine And.intro (show 0 ≤ az ∧ az < 400 by omega) ?_
                    show cw_C _ _ [vr 9437196, vi (o + q)] (q_m m co hd fi se te re fa (k_pl (m x_reader_bytes_) (m x_reader_ 1) i) (k_en (m x_reader_bytes_) (m x_reader_ 1) (k_pl (m x_reader_bytes_) (m x_reader_ 1) i)) pa op cl sz) _
                    refine Js_charAt (B := 20971883) rfl hs1 hs0 rfl (show 0 ≤ o + q ∧ o + q < 5 by omega) (show 0 ≤ m 20971883 (o + q) ∧ m 20971883 (o + q) < 128 by rcases cq with cq | cq <;> omega) ⟨hm, ?_⟩
                    refine And.intro (fun (c8 : m x_reader_bytes_ az ≠ m 20971883 (o + q)) => ?_) (fun (c8 : ¬ (m x_reader_bytes_ az ≠ m 20971883 (o + q))) => ?_)
                    · refine And.intro (show -2147483648 ≤ az + 1 ∧ az + 1 < 2147483648 by omega) ?_
                      refine And.intro (show -2147483648 ≤ (o + q) + 1 ∧ (o + q) + 1 < 2147483648 by omega) ?_
                      show cw_R _ _ 13 [vr x_reader_, vr 9437196, vi w, vi (az + 1), vi 0, vi ((o + q) + 1)] [] (q_m m co hd fi se te re fa (k_pl (m x_reader_bytes_) (m x_reader_ 1) i) (k_en (m x_reader_bytes_) (m x_reader_ 1) (k_pl (m x_reader_bytes_) (m x_reader_ 1) i)) pa op cl sz) _
                      rw [show o + q + 1 = o + (q + 1) by omega]
                      refine ih (q + 1) _ _ (by omega) (by omega) (Or.inr ⟨rfl, ?_⟩)
                      cases hk : k_is (m x_reader_bytes_) (k_pl (m x_reader_bytes_) (m x_reader_ 1) i) (k_en (m x_reader_bytes_) (m x_reader_ 1) (k_pl (m x_reader_bytes_) (m x_reader_ 1) i)) x with
                      | false => rfl
                      | true =>
                        exfalso
                        rcases hI with ⟨h, h2, hI⟩ | ⟨h, hI⟩
                        · have z := k_ist.mp hk; have z2 := z.2 q.toNat (by rcases cq with cq | cq <;> omega); have c2 := ht.1 q.toNat (by rcases cq with cq | cq <;> omega); rw [show o + ((q.toNat : Nat) : Int) = o + q by omega] at c2; rw [show (k_pl (m x_reader_bytes_) (m x_reader_ 1) i) + ((q.toNat : Nat) : Int) = az by omega] at z2; rcases cq with cq | cq <;> omega
                        · rw [hI] at hk; cases hk
                    · refine And.intro (show -2147483648 ≤ az + 1 ∧ az + 1 < 2147483648 by omega) ?_
                      refine And.intro (show -2147483648 ≤ (o + q) + 1 ∧ (o + q) + 1 < 2147483648 by omega) ?_
                      show cw_R _ _ 13 [vr x_reader_, vr 9437196, vi w, vi (az + 1), vi 1, vi ((o + q) + 1)] [] (q_m m co hd fi se te re fa (k_pl (m x_reader_bytes_) (m x_reader_ 1) i) (k_en (m x_reader_bytes_) (m x_reader_ 1) (k_pl (m x_reader_bytes_) (m x_reader_ 1) i)) pa op cl sz) _
                      rw [show o + q + 1 = o + (q + 1) by omega]
                      refine ih (q + 1) _ _ (by omega) (by omega) ?_
                      rcases hI with ⟨h, h2, hI⟩ | ⟨h, hI⟩
                      · refine Or.inl ⟨rfl, by omega, fun q' hq' => ?_⟩
                        by_cases e2 : (q' : Int) = q
                        · have c2 := ht.1 q.toNat (by rcases cq with cq | cq <;> omega); rw [show o + ((q.toNat : Nat) : Int) = o + q by omega] at c2; rw [show q' = q.toNat by omega, show (k_pl (m x_reader_bytes_) (m x_reader_ 1) i) + ((q.toNat : Nat) : Int) = az by omega]; omega
                        · exact hI q' (by omega)
                      · omega
              · refine And.intro (fun (c9 : same = 0) => ?_) (fun (c9 : ¬ (same = 0)) => ?_)
                · refine And.intro (show -2147483648 ≤ w + 1 ∧ w + 1 < 2147483648 by omega) ?_
                  refine And.intro (show -2147483648 ≤ (o + q) + 1 ∧ (o + q) + 1 < 2147483648 by omega) ?_
                  show cw_R _ _ 13 [vr x_reader_, vr 9437196, vi (w + 1), vi (k_pl (m x_reader_bytes_) (m x_reader_ 1) i), vi 1, vi ((o + q) + 1)] [] (q_m m co hd fi se te re fa (k_pl (m x_reader_bytes_) (m x_reader_ 1) i) (k_en (m x_reader_bytes_) (m x_reader_ 1) (k_pl (m x_reader_bytes_) (m x_reader_ 1) i)) pa op cl sz) _
                  have hq : q = (x.length : Int) := by
                    rcases cq with cq | cq <;> omega
                  have hk : k_is (m x_reader_bytes_) (k_pl (m x_reader_bytes_) (m x_reader_ 1) i) (k_en (m x_reader_bytes_) (m x_reader_ 1) (k_pl (m x_reader_bytes_) (m x_reader_ 1) i)) x = false := by
                    cases hk : k_is (m x_reader_bytes_) (k_pl (m x_reader_bytes_) (m x_reader_ 1) i) (k_en (m x_reader_bytes_) (m x_reader_ 1) (k_pl (m x_reader_bytes_) (m x_reader_ 1) i)) x with
                    | false => rfl
                    | true => have z := (k_ist.mp hk).1; rcases hI with ⟨h, h2, hI⟩ | ⟨h, hI⟩
                              · omega
                              · rw [hI] at hk; cases hk
                  have z : k_wi (m x_reader_bytes_) (k_pl (m x_reader_bytes_) (m x_reader_ 1) i) (k_en (m x_reader_bytes_) (m x_reader_ 1) (k_pl (m x_reader_bytes_) (m x_reader_ 1) i)) (x :: t) w = k_wi (m x_reader_bytes_) (k_pl (m x_reader_bytes_) (m x_reader_ 1) i) (k_en (m x_reader_bytes_) (m x_reader_ 1) (k_pl (m x_reader_bytes_) (m x_reader_ 1) i)) t (w + 1) := by show (if k_is (m x_reader_bytes_) (k_pl (m x_reader_bytes_) (m x_reader_ 1) i) (k_en (m x_reader_bytes_) (m x_reader_ 1) (k_pl (m x_reader_bytes_) (m x_reader_ 1) i)) x = true then w else _) = _; rw [if_neg (by rw [hk]; decide)]
                  rw [z] at hQ
                  rw [show o + q + 1 = o + (x.length : Int) + 1 by omega]
                  exact ihw _ _ ht.2.2.2 hQ (by omega)
                · refine And.intro (fun (c10 : az ≠ (k_en (m x_reader_bytes_) (m x_reader_ 1) (k_pl (m x_reader_bytes_) (m x_reader_ 1) i))) => ?_) (fun (c10 : ¬ (az ≠ (k_en (m x_reader_bytes_) (m x_reader_ 1) (k_pl (m x_reader_bytes_) (m x_reader_ 1) i)))) => ?_)
                  · refine And.intro (show -2147483648 ≤ w + 1 ∧ w + 1 < 2147483648 by omega) ?_
                    refine And.intro (show -2147483648 ≤ (o + q) + 1 ∧ (o + q) + 1 < 2147483648 by omega) ?_
                    show cw_R _ _ 13 [vr x_reader_, vr 9437196, vi (w + 1), vi (k_pl (m x_reader_bytes_) (m x_reader_ 1) i), vi 1, vi ((o + q) + 1)] [] (q_m m co hd fi se te re fa (k_pl (m x_reader_bytes_) (m x_reader_ 1) i) (k_en (m x_reader_bytes_) (m x_reader_ 1) (k_pl (m x_reader_bytes_) (m x_reader_ 1) i)) pa op cl sz) _
                    have hq : q = (x.length : Int) := by
                      rcases cq with cq | cq <;> omega
                    have hk : k_is (m x_reader_bytes_) (k_pl (m x_reader_bytes_) (m x_reader_ 1) i) (k_en (m x_reader_bytes_) (m x_reader_ 1) (k_pl (m x_reader_bytes_) (m x_reader_ 1) i)) x = false := by
                      cases hk : k_is (m x_reader_bytes_) (k_pl (m x_reader_bytes_) (m x_reader_ 1) i) (k_en (m x_reader_bytes_) (m x_reader_ 1) (k_pl (m x_reader_bytes_) (m x_reader_ 1) i)) x with
                      | false => rfl
                      | true => have z := (k_ist.mp hk).1; rcases hI with ⟨h, h2, hI⟩ | ⟨h, hI⟩
                                · omega
                                · rw [hI] at hk; cases hk
                    have z : k_wi (m x_reader_bytes_) (k_pl (m x_reader_bytes_) (m x_reader_ 1) i) (k_en (m x_reader_bytes_) (m x_reader_ 1) (k_pl (m x_reader_bytes_) (m x_reader_ 1) i)) (x :: t) w = k_wi (m x_reader_bytes_) (k_pl (m x_reader_bytes_) (m x_reader_ 1) i) (k_en (m x_reader_bytes_) (m x_reader_ 1) (k_pl (m x_reader_bytes_) (m x_reader_ 1) i)) t (w + 1) := by show (if k_is (m x_reader_bytes_) (k_pl (m x_reader_bytes_) (m x_reader_ 1) i) (k_en (m x_reader_bytes_) (m x_reader_ 1) (k_pl (m x_reader_bytes_) (m x_reader_ 1) i)) x = true then w else _) = _; rw [if_neg (by rw [hk]; decide)]
                    rw [z] at hQ
                    rw [show o + q + 1 = o + (x.length : Int) + 1 by omega]
                    exact ihw _ _ ht.2.2.2 hQ (by omega)
                  · show Q (some (vi w)) (q_m m co hd fi se te re fa (k_pl (m x_reader_bytes_) (m x_reader_ 1) i) (k_en (m x_reader_bytes_) (m x_reader_ 1) (k_pl (m x_reader_bytes_) (m x_reader_ 1) i)) pa op cl sz)
                    have hq : q = (x.length : Int) := by
                      rcases cq with cq | cq <;> omega
                    have hk : k_is (m x_reader_bytes_) (k_pl (m x_reader_bytes_) (m x_reader_ 1) i) (k_en (m x_reader_bytes_) (m x_reader_ 1) (k_pl (m x_reader_bytes_) (m x_reader_ 1) i)) x = true := by
                      rcases hI with ⟨h, h2, hI⟩ | ⟨h, hI⟩
                      · exact k_ist.mpr ⟨by omega, fun q' hq' => (hI q' (by omega)).2⟩
                      · omega
                    have z : k_wi (m x_reader_bytes_) (k_pl (m x_reader_bytes_) (m x_reader_ 1) i) (k_en (m x_reader_bytes_) (m x_reader_ 1) (k_pl (m x_reader_bytes_) (m x_reader_ 1) i)) (x :: t) w = w := by show (if k_is (m x_reader_bytes_) (k_pl (m x_reader_bytes_) (m x_reader_ 1) i) (k_en (m x_reader_bytes_) (m x_reader_ 1) (k_pl (m x_reader_bytes_) (m x_reader_ 1) i)) x = true then w else _) = _; rw [if_pos hk]
                    rw [z] at hQ
                    exact hQ
      have z := lw (x.length + 1) 0 (k_pl (m x_reader_bytes_) (m x_reader_ 1) i) 1 (by omega) (by omega) (Or.inl ⟨rfl, by omega, fun q' hq' => by omega⟩)
      rw [show o + 0 = o by omega] at z
      exact z
  refine la_go_C hm 12 [13] ?_
  show cw_R _ _ 13 [vr x_reader_, vr 9437196, vi 0, vi (k_pl (m x_reader_bytes_) (m x_reader_ 1) i), vi 1, vi 0] [] (q_m m co hd fi se te re fa (k_pl (m x_reader_bytes_) (m x_reader_ 1) i) (k_en (m x_reader_bytes_) (m x_reader_ 1) (k_pl (m x_reader_bytes_) (m x_reader_ 1) i)) pa op cl sz) _
  exact main _ 0 0 hstr h (by decide)
theorem Re_wordIn6 {d : Nat} {m : cw_M} {Q : Option cw_V → cw_M → Prop} (hm0 : la_ok m) (hn : 0 ≤ m x_reader_ 1 ∧ m x_reader_ 1 ≤ 400) (hb : ∀ i, 0 ≤ i → i < m x_reader_ 1 → 0 ≤ m x_reader_bytes_ i ∧ m x_reader_bytes_ i ≤ 255) (hs0 : m 10485772 0 = 22020331) (hs1 : m 10485772 1 = 0) (hstr : k_str (m 22020331) 3 0 [[110, 111, 116]]) {co hd fi se te re : Int → Int} {fa st sp pa op cl sz : Int} {i : Nat} (h : Q (some (vi (k_wi (m x_reader_bytes_) (k_pl (m x_reader_bytes_) (m x_reader_ 1) i) (k_en (m x_reader_bytes_) (m x_reader_ 1) (k_pl (m x_reader_bytes_) (m x_reader_ 1) i)) [[110, 111, 116]] 0))) (q_m m co hd fi se te re fa (k_pl (m x_reader_bytes_) (m x_reader_ 1) i) (k_en (m x_reader_bytes_) (m x_reader_ 1) (k_pl (m x_reader_bytes_) (m x_reader_ 1) i)) pa op cl sz)) : cw_C (d + 4) k_Re_wordIn [vr x_reader_, vr 10485772] (q_m m co hd fi se te re fa (k_pl (m x_reader_bytes_) (m x_reader_ 1) i) (k_en (m x_reader_bytes_) (m x_reader_ 1) (k_pl (m x_reader_bytes_) (m x_reader_ 1) i)) pa op cl sz) Q := by
  have hm : la_ok (q_m m co hd fi se te re fa (k_pl (m x_reader_bytes_) (m x_reader_ 1) i) (k_en (m x_reader_bytes_) (m x_reader_ 1) (k_pl (m x_reader_bytes_) (m x_reader_ 1) i)) pa op cl sz) := q_m_ok hm0
  have pr := k_plr (b := (m x_reader_bytes_)) hn.1 i
  have er := Re_enr (b := (m x_reader_bytes_)) hn.1 i
  have main : ∀ (ws : List (List Int)) (o w : Int), k_str (m 22020331) 3 o ws → Q (some (vi (k_wi (m x_reader_bytes_) (k_pl (m x_reader_bytes_) (m x_reader_ 1) i) (k_en (m x_reader_bytes_) (m x_reader_ 1) (k_pl (m x_reader_bytes_) (m x_reader_ 1) i)) ws w))) (q_m m co hd fi se te re fa (k_pl (m x_reader_bytes_) (m x_reader_ 1) i) (k_en (m x_reader_bytes_) (m x_reader_ 1) (k_pl (m x_reader_bytes_) (m x_reader_ 1) i)) pa op cl sz) → (0 ≤ w ∧ w + ws.length < 1000) → cw_R (d + 4) k_Re_wordIn 13 [vr x_reader_, vr 10485772, vi w, vi (k_pl (m x_reader_bytes_) (m x_reader_ 1) i), vi 1, vi o] [] (q_m m co hd fi se te re fa (k_pl (m x_reader_bytes_) (m x_reader_ 1) i) (k_en (m x_reader_bytes_) (m x_reader_ 1) (k_pl (m x_reader_bytes_) (m x_reader_ 1) i)) pa op cl sz) Q := by
    intro ws
    induction ws with
    | nil =>
      intro o w ht hQ hw
      have ht : o = 3 + 1 := ht
      refine la_go_R hm 9 [] ?_
      show cw_C _ _ [vr 10485772] (q_m m co hd fi se te re fa (k_pl (m x_reader_bytes_) (m x_reader_ 1) i) (k_en (m x_reader_bytes_) (m x_reader_ 1) (k_pl (m x_reader_bytes_) (m x_reader_ 1) i)) pa op cl sz) _
      refine Js_length (L := 3) rfl hs1 (by show cw_ln (m 10485772 0) = _; rw [hs0]; rfl) (by decide) (by show 40 ≤ cw_tg (m 10485772 0); rw [hs0]; decide) ⟨hm, ?_⟩
      refine br_t (show 3 < o by omega) ?_
      show Q (some (vi (-1))) (q_m m co hd fi se te re fa (k_pl (m x_reader_bytes_) (m x_reader_ 1) i) (k_en (m x_reader_bytes_) (m x_reader_ 1) (k_pl (m x_reader_bytes_) (m x_reader_ 1) i)) pa op cl sz)
      exact hQ
    | cons x t ihw =>
      intro o w ht hQ hw
      have hwl : w + (x :: t).length = w + 1 + t.length := by rw [List.length_cons]; omega
      have ht : (∀ q : Nat, q < x.length → m 22020331 (o + q) = x.getD q 0 ∧ x.getD q 0 ≠ 32 ∧ 0 ≤ x.getD q 0 ∧ x.getD q 0 < 128) ∧ (o + (x.length : Int) = 3 ∨ (o + (x.length : Int) < 3 ∧ m 22020331 (o + (x.length : Int)) = 32)) ∧ 0 ≤ o ∧ k_str (m 22020331) 3 (o + (x.length : Int) + 1) t := ht
      have ho := ht.2.2.1
      have hxl := ht.2.1
      have lw : ∀ (r : Nat) (q az same : Int), (x.length : Int) < q + r → (0 ≤ q ∧ q ≤ (x.length : Int)) → ((same = 1 ∧ az = (k_pl (m x_reader_bytes_) (m x_reader_ 1) i) + q ∧ ∀ q' : Nat, (q' : Int) < q → (k_pl (m x_reader_bytes_) (m x_reader_ 1) i) + q' < (k_en (m x_reader_bytes_) (m x_reader_ 1) (k_pl (m x_reader_bytes_) (m x_reader_ 1) i)) ∧ m x_reader_bytes_ ((k_pl (m x_reader_bytes_) (m x_reader_ 1) i) + q') = x.getD q' 0) ∨ (same = 0 ∧ k_is (m x_reader_bytes_) (k_pl (m x_reader_bytes_) (m x_reader_ 1) i) (k_en (m x_reader_bytes_) (m x_reader_ 1) (k_pl (m x_reader_bytes_) (m x_reader_ 1) i)) x = false)) → cw_R (d + 4) k_Re_wordIn 13 [vr x_reader_, vr 10485772, vi w, vi az, vi same, vi (o + q)] [] (q_m m co hd fi se te re fa (k_pl (m x_reader_bytes_) (m x_reader_ 1) i) (k_en (m x_reader_bytes_) (m x_reader_ 1) (k_pl (m x_reader_bytes_) (m x_reader_ 1) i)) pa op cl sz) Q := by
        intro r
        induction r with
        | zero =>
          intro q az same hr hq0 hI
          omega
        | succ r ih =>
          intro q az same hr hq0 hI
          have cq : (q = (x.length : Int) ∧ (o + q = 3 ∨ (o + q < 3 ∧ m 22020331 (o + q) = 32))) ∨ (q < (x.length : Int) ∧ o + q < 3 ∧ m 22020331 (o + q) ≠ 32 ∧ 0 ≤ m 22020331 (o + q) ∧ m 22020331 (o + q) < 128) := by
            by_cases z : q = (x.length : Int)
            · left; rw [z]; exact ⟨rfl, ht.2.1⟩
            · right; have c2 := ht.1 q.toNat (by omega); rw [show o + ((q.toNat : Nat) : Int) = o + q by omega] at c2; have c3 := ht.2.1; omega
          have ba : az < (k_en (m x_reader_bytes_) (m x_reader_ 1) (k_pl (m x_reader_bytes_) (m x_reader_ 1) i)) → (k_pl (m x_reader_bytes_) (m x_reader_ 1) i) ≤ az → 0 ≤ m x_reader_bytes_ az ∧ m x_reader_bytes_ az ≤ 255 := fun a c => hb az (by omega) (by omega)
          have hat : same = 1 → (k_pl (m x_reader_bytes_) (m x_reader_ 1) i) ≤ az := fun h => by rcases hI with ⟨-, h2, -⟩ | ⟨h2, -⟩ <;> omega
          have hsm : same = 0 ∨ same = 1 := by rcases hI with ⟨h2, -, -⟩ | ⟨h2, -⟩ <;> omega
          have hat9 : same = 1 → az = (k_pl (m x_reader_bytes_) (m x_reader_ 1) i) + q := fun h => by rcases hI with ⟨-, h2, -⟩ | ⟨h2, -⟩ <;> omega
          refine la_go_R hm 36 [13] ?_
          show cw_C _ _ [vr 10485772] (q_m m co hd fi se te re fa (k_pl (m x_reader_bytes_) (m x_reader_ 1) i) (k_en (m x_reader_bytes_) (m x_reader_ 1) (k_pl (m x_reader_bytes_) (m x_reader_ 1) i)) pa op cl sz) _
          refine Js_length (L := 3) rfl hs1 (by show cw_ln (m 10485772 0) = _; rw [hs0]; rfl) (by decide) (by show 40 ≤ cw_tg (m 10485772 0); rw [hs0]; decide) ⟨hm, ?_⟩
          refine And.intro (fun (c1 : 3 < o + q) => ?_) (fun (c1 : ¬ (3 < o + q)) => ?_)
          · show Q (some (vi (-1))) (q_m m co hd fi se te re fa (k_pl (m x_reader_bytes_) (m x_reader_ 1) i) (k_en (m x_reader_bytes_) (m x_reader_ 1) (k_pl (m x_reader_bytes_) (m x_reader_ 1) i)) pa op cl sz)
            exfalso
            rcases cq with cq | cq <;> omega
          · show cw_C _ _ [vr 10485772] (q_m m co hd fi se te re fa (k_pl (m x_reader_bytes_) (m x_reader_ 1) i) (k_en (m x_reader_bytes_) (m x_reader_ 1) (k_pl (m x_reader_bytes_) (m x_reader_ 1) i)) pa op cl sz) _
            refine Js_length (L := 3) rfl hs1 (by show cw_ln (m 10485772 0) = _; rw [hs0]; rfl) (by decide) (by show 40 ≤ cw_tg (m 10485772 0); rw [hs0]; decide) ⟨hm, ?_⟩
            refine And.intro (fun (c2 : o + q = 3) => ?_) (fun (c2 : ¬ (o + q = 3)) => ?_)
            · refine And.intro (fun (c3 : same = 0) => ?_) (fun (c3 : ¬ (same = 0)) => ?_)
              · refine And.intro (show -2147483648 ≤ w + 1 ∧ w + 1 < 2147483648 by omega) ?_
                refine And.intro (show -2147483648 ≤ (o + q) + 1 ∧ (o + q) + 1 < 2147483648 by omega) ?_
                show cw_R _ _ 13 [vr x_reader_, vr 10485772, vi (w + 1), vi (k_pl (m x_reader_bytes_) (m x_reader_ 1) i), vi 1, vi ((o + q) + 1)] [] (q_m m co hd fi se te re fa (k_pl (m x_reader_bytes_) (m x_reader_ 1) i) (k_en (m x_reader_bytes_) (m x_reader_ 1) (k_pl (m x_reader_bytes_) (m x_reader_ 1) i)) pa op cl sz) _
                have hq : q = (x.length : Int) := by
                  rcases cq with cq | cq <;> omega
                have hk : k_is (m x_reader_bytes_) (k_pl (m x_reader_bytes_) (m x_reader_ 1) i) (k_en (m x_reader_bytes_) (m x_reader_ 1) (k_pl (m x_reader_bytes_) (m x_reader_ 1) i)) x = false := by
                  cases hk : k_is (m x_reader_bytes_) (k_pl (m x_reader_bytes_) (m x_reader_ 1) i) (k_en (m x_reader_bytes_) (m x_reader_ 1) (k_pl (m x_reader_bytes_) (m x_reader_ 1) i)) x with
                  | false => rfl
                  | true => have z := (k_ist.mp hk).1; rcases hI with ⟨h, h2, hI⟩ | ⟨h, hI⟩
                            · omega
                            · rw [hI] at hk; cases hk
                have z : k_wi (m x_reader_bytes_) (k_pl (m x_reader_bytes_) (m x_reader_ 1) i) (k_en (m x_reader_bytes_) (m x_reader_ 1) (k_pl (m x_reader_bytes_) (m x_reader_ 1) i)) (x :: t) w = k_wi (m x_reader_bytes_) (k_pl (m x_reader_bytes_) (m x_reader_ 1) i) (k_en (m x_reader_bytes_) (m x_reader_ 1) (k_pl (m x_reader_bytes_) (m x_reader_ 1) i)) t (w + 1) := by show (if k_is (m x_reader_bytes_) (k_pl (m x_reader_bytes_) (m x_reader_ 1) i) (k_en (m x_reader_bytes_) (m x_reader_ 1) (k_pl (m x_reader_bytes_) (m x_reader_ 1) i)) x = true then w else _) = _; rw [if_neg (by rw [hk]; decide)]
                rw [z] at hQ
                rw [show o + q + 1 = o + (x.length : Int) + 1 by omega]
                exact ihw _ _ ht.2.2.2 hQ (by omega)
              · refine And.intro (fun (c4 : az ≠ (k_en (m x_reader_bytes_) (m x_reader_ 1) (k_pl (m x_reader_bytes_) (m x_reader_ 1) i))) => ?_) (fun (c4 : ¬ (az ≠ (k_en (m x_reader_bytes_) (m x_reader_ 1) (k_pl (m x_reader_bytes_) (m x_reader_ 1) i)))) => ?_)
                · refine And.intro (show -2147483648 ≤ w + 1 ∧ w + 1 < 2147483648 by omega) ?_
                  refine And.intro (show -2147483648 ≤ (o + q) + 1 ∧ (o + q) + 1 < 2147483648 by omega) ?_
                  show cw_R _ _ 13 [vr x_reader_, vr 10485772, vi (w + 1), vi (k_pl (m x_reader_bytes_) (m x_reader_ 1) i), vi 1, vi ((o + q) + 1)] [] (q_m m co hd fi se te re fa (k_pl (m x_reader_bytes_) (m x_reader_ 1) i) (k_en (m x_reader_bytes_) (m x_reader_ 1) (k_pl (m x_reader_bytes_) (m x_reader_ 1) i)) pa op cl sz) _
                  have hq : q = (x.length : Int) := by
                    rcases cq with cq | cq <;> omega
                  have hk : k_is (m x_reader_bytes_) (k_pl (m x_reader_bytes_) (m x_reader_ 1) i) (k_en (m x_reader_bytes_) (m x_reader_ 1) (k_pl (m x_reader_bytes_) (m x_reader_ 1) i)) x = false := by
                    cases hk : k_is (m x_reader_bytes_) (k_pl (m x_reader_bytes_) (m x_reader_ 1) i) (k_en (m x_reader_bytes_) (m x_reader_ 1) (k_pl (m x_reader_bytes_) (m x_reader_ 1) i)) x with
                    | false => rfl
                    | true => have z := (k_ist.mp hk).1; rcases hI with ⟨h, h2, hI⟩ | ⟨h, hI⟩
                              · omega
                              · rw [hI] at hk; cases hk
                  have z : k_wi (m x_reader_bytes_) (k_pl (m x_reader_bytes_) (m x_reader_ 1) i) (k_en (m x_reader_bytes_) (m x_reader_ 1) (k_pl (m x_reader_bytes_) (m x_reader_ 1) i)) (x :: t) w = k_wi (m x_reader_bytes_) (k_pl (m x_reader_bytes_) (m x_reader_ 1) i) (k_en (m x_reader_bytes_) (m x_reader_ 1) (k_pl (m x_reader_bytes_) (m x_reader_ 1) i)) t (w + 1) := by show (if k_is (m x_reader_bytes_) (k_pl (m x_reader_bytes_) (m x_reader_ 1) i) (k_en (m x_reader_bytes_) (m x_reader_ 1) (k_pl (m x_reader_bytes_) (m x_reader_ 1) i)) x = true then w else _) = _; rw [if_neg (by rw [hk]; decide)]
                  rw [z] at hQ
                  rw [show o + q + 1 = o + (x.length : Int) + 1 by omega]
                  exact ihw _ _ ht.2.2.2 hQ (by omega)
                · show Q (some (vi w)) (q_m m co hd fi se te re fa (k_pl (m x_reader_bytes_) (m x_reader_ 1) i) (k_en (m x_reader_bytes_) (m x_reader_ 1) (k_pl (m x_reader_bytes_) (m x_reader_ 1) i)) pa op cl sz)
                  have hq : q = (x.length : Int) := by
                    rcases cq with cq | cq <;> omega
                  have hk : k_is (m x_reader_bytes_) (k_pl (m x_reader_bytes_) (m x_reader_ 1) i) (k_en (m x_reader_bytes_) (m x_reader_ 1) (k_pl (m x_reader_bytes_) (m x_reader_ 1) i)) x = true := by
                    rcases hI with ⟨h, h2, hI⟩ | ⟨h, hI⟩
                    · exact k_ist.mpr ⟨by omega, fun q' hq' => (hI q' (by omega)).2⟩
                    · omega
                  have z : k_wi (m x_reader_bytes_) (k_pl (m x_reader_bytes_) (m x_reader_ 1) i) (k_en (m x_reader_bytes_) (m x_reader_ 1) (k_pl (m x_reader_bytes_) (m x_reader_ 1) i)) (x :: t) w = w := by show (if k_is (m x_reader_bytes_) (k_pl (m x_reader_bytes_) (m x_reader_ 1) i) (k_en (m x_reader_bytes_) (m x_reader_ 1) (k_pl (m x_reader_bytes_) (m x_reader_ 1) i)) x = true then w else _) = _; rw [if_pos hk]
                  rw [z] at hQ
                  exact hQ
            · show cw_C _ _ [vr 10485772, vi (o + q)] (q_m m co hd fi se te re fa (k_pl (m x_reader_bytes_) (m x_reader_ 1) i) (k_en (m x_reader_bytes_) (m x_reader_ 1) (k_pl (m x_reader_bytes_) (m x_reader_ 1) i)) pa op cl sz) _
              refine Js_charAt (B := 22020331) rfl hs1 hs0 rfl (show 0 ≤ o + q ∧ o + q < 3 by omega) (show 0 ≤ m 22020331 (o + q) ∧ m 22020331 (o + q) < 128 by rcases cq with cq | cq <;> omega) ⟨hm, ?_⟩
              refine And.intro (fun (c5 : m 22020331 (o + q) ≠ 32) => ?_) (fun (c5 : ¬ (m 22020331 (o + q) ≠ 32)) => ?_)
              · refine And.intro (fun (c6 : same = 0) => ?_) (fun (c6 : ¬ (same = 0)) => ?_)
                · refine And.intro (show -2147483648 ≤ (o + q) + 1 ∧ (o + q) + 1 < 2147483648 by omega) ?_
                  show cw_R _ _ 13 [vr x_reader_, vr 10485772, vi w, vi az, vi same, vi ((o + q) + 1)] [] (q_m m co hd fi se te re fa (k_pl (m x_reader_bytes_) (m x_reader_ 1) i) (k_en (m x_reader_bytes_) (m x_reader_ 1) (k_pl (m x_reader_bytes_) (m x_reader_ 1) i)) pa op cl sz) _
                  rw [show o + q + 1 = o + (q + 1) by omega]
                  refine ih (q + 1) _ _ (by omega) (by omega) (Or.inr ⟨by omega, ?_⟩)
                  cases hk : k_is (m x_reader_bytes_) (k_pl (m x_reader_bytes_) (m x_reader_ 1) i) (k_en (m x_reader_bytes_) (m x_reader_ 1) (k_pl (m x_reader_bytes_) (m x_reader_ 1) i)) x with
                  | false => rfl
                  | true =>
                    exfalso
                    rcases hI with ⟨h, h2, hI⟩ | ⟨h, hI⟩
                    · have z := k_ist.mp hk; have z2 := z.2 q.toNat (by rcases cq with cq | cq <;> omega); have c2 := ht.1 q.toNat (by rcases cq with cq | cq <;> omega); rw [show o + ((q.toNat : Nat) : Int) = o + q by omega] at c2; rw [show (k_pl (m x_reader_bytes_) (m x_reader_ 1) i) + ((q.toNat : Nat) : Int) = az by omega] at z2; rcases cq with cq | cq <;> omega
                    · rw [hI] at hk; cases hk
                · refine And.intro (fun (c7 : (k_en (m x_reader_bytes_) (m x_reader_ 1) (k_pl (m x_reader_bytes_) (m x_reader_ 1) i)) ≤ az) => ?_) (fun (c7 : ¬ ((k_en (m x_reader_bytes_) (m x_reader_ 1) (k_pl (m x_reader_bytes_) (m x_reader_ 1) i)) ≤ az)) => ?_)
                  · refine And.intro (show -2147483648 ≤ az + 1 ∧ az + 1 < 2147483648 by omega) ?_
                    refine And.intro (show -2147483648 ≤ (o + q) + 1 ∧ (o + q) + 1 < 2147483648 by omega) ?_
                    show cw_R _ _ 13 [vr x_reader_, vr 10485772, vi w, vi (az + 1), vi 0, vi ((o + q) + 1)] [] (q_m m co hd fi se te re fa (k_pl (m x_reader_bytes_) (m x_reader_ 1) i) (k_en (m x_reader_bytes_) (m x_reader_ 1) (k_pl (m x_reader_bytes_) (m x_reader_ 1) i)) pa op cl sz) _
                    rw [show o + q + 1 = o + (q + 1) by omega]
                    refine ih (q + 1) _ _ (by omega) (by omega) (Or.inr ⟨rfl, ?_⟩)
                    cases hk : k_is (m x_reader_bytes_) (k_pl (m x_reader_bytes_) (m x_reader_ 1) i) (k_en (m x_reader_bytes_) (m x_reader_ 1) (k_pl (m x_reader_bytes_) (m x_reader_ 1) i)) x with
                    | false => rfl
                    | true =>
                      exfalso
                      rcases hI with ⟨h, h2, hI⟩ | ⟨h, hI⟩
                      · have z := k_ist.mp hk; have z2 := z.2 q.toNat (by rcases cq with cq | cq <;> omega); have c2 := ht.1 q.toNat (by rcases cq with cq | cq <;> omega); rw [show o + ((q.toNat : Nat) : Int) = o + q by omega] at c2; rw [show (k_pl (m x_reader_bytes_) (m x_reader_ 1) i) + ((q.toNat : Nat) : Int) = az by omega] at z2; rcases cq with cq | cq <;> omega
                      · rw [hI] at hk; cases hk
                  · refine And.intro (show 0 ≤ az ∧ az < 400 by omega) ?_
                    show cw_C _ _ [vr 10485772, vi (o + q)] (q_m m co hd fi se te re fa (k_pl (m x_reader_bytes_) (m x_reader_ 1) i) (k_en (m x_reader_bytes_) (m x_reader_ 1) (k_pl (m x_reader_bytes_) (m x_reader_ 1) i)) pa op cl sz) _
                    refine Js_charAt (B := 22020331) rfl hs1 hs0 rfl (show 0 ≤ o + q ∧ o + q < 3 by omega) (show 0 ≤ m 22020331 (o + q) ∧ m 22020331 (o + q) < 128 by rcases cq with cq | cq <;> omega) ⟨hm, ?_⟩
                    refine And.intro (fun (c8 : m x_reader_bytes_ az ≠ m 22020331 (o + q)) => ?_) (fun (c8 : ¬ (m x_reader_bytes_ az ≠ m 22020331 (o + q))) => ?_)
                    · refine And.intro (show -2147483648 ≤ az + 1 ∧ az + 1 < 2147483648 by omega) ?_
                      refine And.intro (show -2147483648 ≤ (o + q) + 1 ∧ (o + q) + 1 < 2147483648 by omega) ?_
                      show cw_R _ _ 13 [vr x_reader_, vr 10485772, vi w, vi (az + 1), vi 0, vi ((o + q) + 1)] [] (q_m m co hd fi se te re fa (k_pl (m x_reader_bytes_) (m x_reader_ 1) i) (k_en (m x_reader_bytes_) (m x_reader_ 1) (k_pl (m x_reader_bytes_) (m x_reader_ 1) i)) pa op cl sz) _
                      rw [show o + q + 1 = o + (q + 1) by omega]
                      refine ih (q + 1) _ _ (by omega) (by omega) (Or.inr ⟨rfl, ?_⟩)
                      cases hk : k_is (m x_reader_bytes_) (k_pl (m x_reader_bytes_) (m x_reader_ 1) i) (k_en (m x_reader_bytes_) (m x_reader_ 1) (k_pl (m x_reader_bytes_) (m x_reader_ 1) i)) x with
                      | false => rfl
                      | true =>
                        exfalso
                        rcases hI with ⟨h, h2, hI⟩ | ⟨h, hI⟩
                        · have z := k_ist.mp hk; have z2 := z.2 q.toNat (by rcases cq with cq | cq <;> omega); have c2 := ht.1 q.toNat (by rcases cq with cq | cq <;> omega); rw [show o + ((q.toNat : Nat) : Int) = o + q by omega] at c2; rw [show (k_pl (m x_reader_bytes_) (m x_reader_ 1) i) + ((q.toNat : Nat) : Int) = az by omega] at z2; rcases cq with cq | cq <;> omega
                        · rw [hI] at hk; cases hk
                    · refine And.intro (show -2147483648 ≤ az + 1 ∧ az + 1 < 2147483648 by omega) ?_
                      refine And.intro (show -2147483648 ≤ (o + q) + 1 ∧ (o + q) + 1 < 2147483648 by omega) ?_
                      show cw_R _ _ 13 [vr x_reader_, vr 10485772, vi w, vi (az + 1), vi 1, vi ((o + q) + 1)] [] (q_m m co hd fi se te re fa (k_pl (m x_reader_bytes_) (m x_reader_ 1) i) (k_en (m x_reader_bytes_) (m x_reader_ 1) (k_pl (m x_reader_bytes_) (m x_reader_ 1) i)) pa op cl sz) _
                      rw [show o + q + 1 = o + (q + 1) by omega]
                      refine ih (q + 1) _ _ (by omega) (by omega) ?_
                      rcases hI with ⟨h, h2, hI⟩ | ⟨h, hI⟩
                      · refine Or.inl ⟨rfl, by omega, fun q' hq' => ?_⟩
                        by_cases e2 : (q' : Int) = q
                        · have c2 := ht.1 q.toNat (by rcases cq with cq | cq <;> omega); rw [show o + ((q.toNat : Nat) : Int) = o + q by omega] at c2; rw [show q' = q.toNat by omega, show (k_pl (m x_reader_bytes_) (m x_reader_ 1) i) + ((q.toNat : Nat) : Int) = az by omega]; omega
                        · exact hI q' (by omega)
                      · omega
              · refine And.intro (fun (c9 : same = 0) => ?_) (fun (c9 : ¬ (same = 0)) => ?_)
                · refine And.intro (show -2147483648 ≤ w + 1 ∧ w + 1 < 2147483648 by omega) ?_
                  refine And.intro (show -2147483648 ≤ (o + q) + 1 ∧ (o + q) + 1 < 2147483648 by omega) ?_
                  show cw_R _ _ 13 [vr x_reader_, vr 10485772, vi (w + 1), vi (k_pl (m x_reader_bytes_) (m x_reader_ 1) i), vi 1, vi ((o + q) + 1)] [] (q_m m co hd fi se te re fa (k_pl (m x_reader_bytes_) (m x_reader_ 1) i) (k_en (m x_reader_bytes_) (m x_reader_ 1) (k_pl (m x_reader_bytes_) (m x_reader_ 1) i)) pa op cl sz) _
                  have hq : q = (x.length : Int) := by
                    rcases cq with cq | cq <;> omega
                  have hk : k_is (m x_reader_bytes_) (k_pl (m x_reader_bytes_) (m x_reader_ 1) i) (k_en (m x_reader_bytes_) (m x_reader_ 1) (k_pl (m x_reader_bytes_) (m x_reader_ 1) i)) x = false := by
                    cases hk : k_is (m x_reader_bytes_) (k_pl (m x_reader_bytes_) (m x_reader_ 1) i) (k_en (m x_reader_bytes_) (m x_reader_ 1) (k_pl (m x_reader_bytes_) (m x_reader_ 1) i)) x with
                    | false => rfl
                    | true => have z := (k_ist.mp hk).1; rcases hI with ⟨h, h2, hI⟩ | ⟨h, hI⟩
                              · omega
                              · rw [hI] at hk; cases hk
                  have z : k_wi (m x_reader_bytes_) (k_pl (m x_reader_bytes_) (m x_reader_ 1) i) (k_en (m x_reader_bytes_) (m x_reader_ 1) (k_pl (m x_reader_bytes_) (m x_reader_ 1) i)) (x :: t) w = k_wi (m x_reader_bytes_) (k_pl (m x_reader_bytes_) (m x_reader_ 1) i) (k_en (m x_reader_bytes_) (m x_reader_ 1) (k_pl (m x_reader_bytes_) (m x_reader_ 1) i)) t (w + 1) := by show (if k_is (m x_reader_bytes_) (k_pl (m x_reader_bytes_) (m x_reader_ 1) i) (k_en (m x_reader_bytes_) (m x_reader_ 1) (k_pl (m x_reader_bytes_) (m x_reader_ 1) i)) x = true then w else _) = _; rw [if_neg (by rw [hk]; decide)]
                  rw [z] at hQ
                  rw [show o + q + 1 = o + (x.length : Int) + 1 by omega]
                  exact ihw _ _ ht.2.2.2 hQ (by omega)
                · refine And.intro (fun (c10 : az ≠ (k_en (m x_reader_bytes_) (m x_reader_ 1) (k_pl (m x_reader_bytes_) (m x_reader_ 1) i))) => ?_) (fun (c10 : ¬ (az ≠ (k_en (m x_reader_bytes_) (m x_reader_ 1) (k_pl (m x_reader_bytes_) (m x_reader_ 1) i)))) => ?_)
                  · refine And.intro (show -2147483648 ≤ w + 1 ∧ w + 1 < 2147483648 by omega) ?_
                    refine And.intro (show -2147483648 ≤ (o + q) + 1 ∧ (o + q) + 1 < 2147483648 by omega) ?_
                    show cw_R _ _ 13 [vr x_reader_, vr 10485772, vi (w + 1), vi (k_pl (m x_reader_bytes_) (m x_reader_ 1) i), vi 1, vi ((o + q) + 1)] [] (q_m m co hd fi se te re fa (k_pl (m x_reader_bytes_) (m x_reader_ 1) i) (k_en (m x_reader_bytes_) (m x_reader_ 1) (k_pl (m x_reader_bytes_) (m x_reader_ 1) i)) pa op cl sz) _
                    have hq : q = (x.length : Int) := by
                      rcases cq with cq | cq <;> omega
                    have hk : k_is (m x_reader_bytes_) (k_pl (m x_reader_bytes_) (m x_reader_ 1) i) (k_en (m x_reader_bytes_) (m x_reader_ 1) (k_pl (m x_reader_bytes_) (m x_reader_ 1) i)) x = false := by
                      cases hk : k_is (m x_reader_bytes_) (k_pl (m x_reader_bytes_) (m x_reader_ 1) i) (k_en (m x_reader_bytes_) (m x_reader_ 1) (k_pl (m x_reader_bytes_) (m x_reader_ 1) i)) x with
                      | false => rfl
                      | true => have z := (k_ist.mp hk).1; rcases hI with ⟨h, h2, hI⟩ | ⟨h, hI⟩
                                · omega
                                · rw [hI] at hk; cases hk
                    have z : k_wi (m x_reader_bytes_) (k_pl (m x_reader_bytes_) (m x_reader_ 1) i) (k_en (m x_reader_bytes_) (m x_reader_ 1) (k_pl (m x_reader_bytes_) (m x_reader_ 1) i)) (x :: t) w = k_wi (m x_reader_bytes_) (k_pl (m x_reader_bytes_) (m x_reader_ 1) i) (k_en (m x_reader_bytes_) (m x_reader_ 1) (k_pl (m x_reader_bytes_) (m x_reader_ 1) i)) t (w + 1) := by show (if k_is (m x_reader_bytes_) (k_pl (m x_reader_bytes_) (m x_reader_ 1) i) (k_en (m x_reader_bytes_) (m x_reader_ 1) (k_pl (m x_reader_bytes_) (m x_reader_ 1) i)) x = true then w else _) = _; rw [if_neg (by rw [hk]; decide)]
                    rw [z] at hQ
                    rw [show o + q + 1 = o + (x.length : Int) + 1 by omega]
                    exact ihw _ _ ht.2.2.2 hQ (by omega)
                  · show Q (some (vi w)) (q_m m co hd fi se te re fa (k_pl (m x_reader_bytes_) (m x_reader_ 1) i) (k_en (m x_reader_bytes_) (m x_reader_ 1) (k_pl (m x_reader_bytes_) (m x_reader_ 1) i)) pa op cl sz)
                    have hq : q = (x.length : Int) := by
                      rcases cq with cq | cq <;> omega
                    have hk : k_is (m x_reader_bytes_) (k_pl (m x_reader_bytes_) (m x_reader_ 1) i) (k_en (m x_reader_bytes_) (m x_reader_ 1) (k_pl (m x_reader_bytes_) (m x_reader_ 1) i)) x = true := by
                      rcases hI with ⟨h, h2, hI⟩ | ⟨h, hI⟩
                      · exact k_ist.mpr ⟨by omega, fun q' hq' => (hI q' (by omega)).2⟩
                      · omega
                    have z : k_wi (m x_reader_bytes_) (k_pl (m x_reader_bytes_) (m x_reader_ 1) i) (k_en (m x_reader_bytes_) (m x_reader_ 1) (k_pl (m x_reader_bytes_) (m x_reader_ 1) i)) (x :: t) w = w := by show (if k_is (m x_reader_bytes_) (k_pl (m x_reader_bytes_) (m x_reader_ 1) i) (k_en (m x_reader_bytes_) (m x_reader_ 1) (k_pl (m x_reader_bytes_) (m x_reader_ 1) i)) x = true then w else _) = _; rw [if_pos hk]
                    rw [z] at hQ
                    exact hQ
      have z := lw (x.length + 1) 0 (k_pl (m x_reader_bytes_) (m x_reader_ 1) i) 1 (by omega) (by omega) (Or.inl ⟨rfl, by omega, fun q' hq' => by omega⟩)
      rw [show o + 0 = o by omega] at z
      exact z
  refine la_go_C hm 12 [13] ?_
  show cw_R _ _ 13 [vr x_reader_, vr 10485772, vi 0, vi (k_pl (m x_reader_bytes_) (m x_reader_ 1) i), vi 1, vi 0] [] (q_m m co hd fi se te re fa (k_pl (m x_reader_bytes_) (m x_reader_ 1) i) (k_en (m x_reader_bytes_) (m x_reader_ 1) (k_pl (m x_reader_bytes_) (m x_reader_ 1) i)) pa op cl sz) _
  exact main _ 0 0 hstr h (by decide)
theorem Re_wordIn7 {d : Nat} {m : cw_M} {Q : Option cw_V → cw_M → Prop} (hm0 : la_ok m) (hn : 0 ≤ m x_reader_ 1 ∧ m x_reader_ 1 ≤ 400) (hb : ∀ i, 0 ≤ i → i < m x_reader_ 1 → 0 ≤ m x_reader_bytes_ i ∧ m x_reader_bytes_ i ≤ 255) (hs0 : m 11534348 0 = 23069803) (hs1 : m 11534348 1 = 0) (hstr : k_str (m 23069803) 17 0 [[115, 104, 97, 114, 101, 115], [116, 97, 120, 101, 115], [98, 97, 114, 115]]) {co hd fi se te re : Int → Int} {fa st sp pa op cl sz : Int} {i : Nat} (h : Q (some (vi (k_wi (m x_reader_bytes_) (k_pl (m x_reader_bytes_) (m x_reader_ 1) i) (k_en (m x_reader_bytes_) (m x_reader_ 1) (k_pl (m x_reader_bytes_) (m x_reader_ 1) i)) [[115, 104, 97, 114, 101, 115], [116, 97, 120, 101, 115], [98, 97, 114, 115]] 0))) (q_m m co hd fi se te re fa (k_pl (m x_reader_bytes_) (m x_reader_ 1) i) (k_en (m x_reader_bytes_) (m x_reader_ 1) (k_pl (m x_reader_bytes_) (m x_reader_ 1) i)) pa op cl sz)) : cw_C (d + 4) k_Re_wordIn [vr x_reader_, vr 11534348] (q_m m co hd fi se te re fa (k_pl (m x_reader_bytes_) (m x_reader_ 1) i) (k_en (m x_reader_bytes_) (m x_reader_ 1) (k_pl (m x_reader_bytes_) (m x_reader_ 1) i)) pa op cl sz) Q := by
  have hm : la_ok (q_m m co hd fi se te re fa (k_pl (m x_reader_bytes_) (m x_reader_ 1) i) (k_en (m x_reader_bytes_) (m x_reader_ 1) (k_pl (m x_reader_bytes_) (m x_reader_ 1) i)) pa op cl sz) := q_m_ok hm0
  have pr := k_plr (b := (m x_reader_bytes_)) hn.1 i
  have er := Re_enr (b := (m x_reader_bytes_)) hn.1 i
  have main : ∀ (ws : List (List Int)) (o w : Int), k_str (m 23069803) 17 o ws → Q (some (vi (k_wi (m x_reader_bytes_) (k_pl (m x_reader_bytes_) (m x_reader_ 1) i) (k_en (m x_reader_bytes_) (m x_reader_ 1) (k_pl (m x_reader_bytes_) (m x_reader_ 1) i)) ws w))) (q_m m co hd fi se te re fa (k_pl (m x_reader_bytes_) (m x_reader_ 1) i) (k_en (m x_reader_bytes_) (m x_reader_ 1) (k_pl (m x_reader_bytes_) (m x_reader_ 1) i)) pa op cl sz) → (0 ≤ w ∧ w + ws.length < 1000) → cw_R (d + 4) k_Re_wordIn 13 [vr x_reader_, vr 11534348, vi w, vi (k_pl (m x_reader_bytes_) (m x_reader_ 1) i), vi 1, vi o] [] (q_m m co hd fi se te re fa (k_pl (m x_reader_bytes_) (m x_reader_ 1) i) (k_en (m x_reader_bytes_) (m x_reader_ 1) (k_pl (m x_reader_bytes_) (m x_reader_ 1) i)) pa op cl sz) Q := by
    intro ws
    induction ws with
    | nil =>
      intro o w ht hQ hw
      have ht : o = 17 + 1 := ht
      refine la_go_R hm 9 [] ?_
      show cw_C _ _ [vr 11534348] (q_m m co hd fi se te re fa (k_pl (m x_reader_bytes_) (m x_reader_ 1) i) (k_en (m x_reader_bytes_) (m x_reader_ 1) (k_pl (m x_reader_bytes_) (m x_reader_ 1) i)) pa op cl sz) _
      refine Js_length (L := 17) rfl hs1 (by show cw_ln (m 11534348 0) = _; rw [hs0]; rfl) (by decide) (by show 40 ≤ cw_tg (m 11534348 0); rw [hs0]; decide) ⟨hm, ?_⟩
      refine br_t (show 17 < o by omega) ?_
      show Q (some (vi (-1))) (q_m m co hd fi se te re fa (k_pl (m x_reader_bytes_) (m x_reader_ 1) i) (k_en (m x_reader_bytes_) (m x_reader_ 1) (k_pl (m x_reader_bytes_) (m x_reader_ 1) i)) pa op cl sz)
      exact hQ
    | cons x t ihw =>
      intro o w ht hQ hw
      have hwl : w + (x :: t).length = w + 1 + t.length := by rw [List.length_cons]; omega
      have ht : (∀ q : Nat, q < x.length → m 23069803 (o + q) = x.getD q 0 ∧ x.getD q 0 ≠ 32 ∧ 0 ≤ x.getD q 0 ∧ x.getD q 0 < 128) ∧ (o + (x.length : Int) = 17 ∨ (o + (x.length : Int) < 17 ∧ m 23069803 (o + (x.length : Int)) = 32)) ∧ 0 ≤ o ∧ k_str (m 23069803) 17 (o + (x.length : Int) + 1) t := ht
      have ho := ht.2.2.1
      have hxl := ht.2.1
      have lw : ∀ (r : Nat) (q az same : Int), (x.length : Int) < q + r → (0 ≤ q ∧ q ≤ (x.length : Int)) → ((same = 1 ∧ az = (k_pl (m x_reader_bytes_) (m x_reader_ 1) i) + q ∧ ∀ q' : Nat, (q' : Int) < q → (k_pl (m x_reader_bytes_) (m x_reader_ 1) i) + q' < (k_en (m x_reader_bytes_) (m x_reader_ 1) (k_pl (m x_reader_bytes_) (m x_reader_ 1) i)) ∧ m x_reader_bytes_ ((k_pl (m x_reader_bytes_) (m x_reader_ 1) i) + q') = x.getD q' 0) ∨ (same = 0 ∧ k_is (m x_reader_bytes_) (k_pl (m x_reader_bytes_) (m x_reader_ 1) i) (k_en (m x_reader_bytes_) (m x_reader_ 1) (k_pl (m x_reader_bytes_) (m x_reader_ 1) i)) x = false)) → cw_R (d + 4) k_Re_wordIn 13 [vr x_reader_, vr 11534348, vi w, vi az, vi same, vi (o + q)] [] (q_m m co hd fi se te re fa (k_pl (m x_reader_bytes_) (m x_reader_ 1) i) (k_en (m x_reader_bytes_) (m x_reader_ 1) (k_pl (m x_reader_bytes_) (m x_reader_ 1) i)) pa op cl sz) Q := by
        intro r
        induction r with
        | zero =>
          intro q az same hr hq0 hI
          omega
        | succ r ih =>
          intro q az same hr hq0 hI
          have cq : (q = (x.length : Int) ∧ (o + q = 17 ∨ (o + q < 17 ∧ m 23069803 (o + q) = 32))) ∨ (q < (x.length : Int) ∧ o + q < 17 ∧ m 23069803 (o + q) ≠ 32 ∧ 0 ≤ m 23069803 (o + q) ∧ m 23069803 (o + q) < 128) := by
            by_cases z : q = (x.length : Int)
            · left; rw [z]; exact ⟨rfl, ht.2.1⟩
            · right; have c2 := ht.1 q.toNat (by omega); rw [show o + ((q.toNat : Nat) : Int) = o + q by omega] at c2; have c3 := ht.2.1; omega
          have ba : az < (k_en (m x_reader_bytes_) (m x_reader_ 1) (k_pl (m x_reader_bytes_) (m x_reader_ 1) i)) → (k_pl (m x_reader_bytes_) (m x_reader_ 1) i) ≤ az → 0 ≤ m x_reader_bytes_ az ∧ m x_reader_bytes_ az ≤ 255 := fun a c => hb az (by omega) (by omega)
          have hat : same = 1 → (k_pl (m x_reader_bytes_) (m x_reader_ 1) i) ≤ az := fun h => by rcases hI with ⟨-, h2, -⟩ | ⟨h2, -⟩ <;> omega
          have hsm : same = 0 ∨ same = 1 := by rcases hI with ⟨h2, -, -⟩ | ⟨h2, -⟩ <;> omega
          have hat9 : same = 1 → az = (k_pl (m x_reader_bytes_) (m x_reader_ 1) i) + q := fun h => by rcases hI with ⟨-, h2, -⟩ | ⟨h2, -⟩ <;> omega
          refine la_go_R hm 36 [13] ?_
          show cw_C _ _ [vr 11534348] (q_m m co hd fi se te re fa (k_pl (m x_reader_bytes_) (m x_reader_ 1) i) (k_en (m x_reader_bytes_) (m x_reader_ 1) (k_pl (m x_reader_bytes_) (m x_reader_ 1) i)) pa op cl sz) _
          refine Js_length (L := 17) rfl hs1 (by show cw_ln (m 11534348 0) = _; rw [hs0]; rfl) (by decide) (by show 40 ≤ cw_tg (m 11534348 0); rw [hs0]; decide) ⟨hm, ?_⟩
          refine And.intro (fun (c1 : 17 < o + q) => ?_) (fun (c1 : ¬ (17 < o + q)) => ?_)
          · show Q (some (vi (-1))) (q_m m co hd fi se te re fa (k_pl (m x_reader_bytes_) (m x_reader_ 1) i) (k_en (m x_reader_bytes_) (m x_reader_ 1) (k_pl (m x_reader_bytes_) (m x_reader_ 1) i)) pa op cl sz)
            exfalso
            rcases cq with cq | cq <;> omega
          · show cw_C _ _ [vr 11534348] (q_m m co hd fi se te re fa (k_pl (m x_reader_bytes_) (m x_reader_ 1) i) (k_en (m x_reader_bytes_) (m x_reader_ 1) (k_pl (m x_reader_bytes_) (m x_reader_ 1) i)) pa op cl sz) _
            refine Js_length (L := 17) rfl hs1 (by show cw_ln (m 11534348 0) = _; rw [hs0]; rfl) (by decide) (by show 40 ≤ cw_tg (m 11534348 0); rw [hs0]; decide) ⟨hm, ?_⟩
            refine And.intro (fun (c2 : o + q = 17) => ?_) (fun (c2 : ¬ (o + q = 17)) => ?_)
            · refine And.intro (fun (c3 : same = 0) => ?_) (fun (c3 : ¬ (same = 0)) => ?_)
              · refine And.intro (show -2147483648 ≤ w + 1 ∧ w + 1 < 2147483648 by omega) ?_
                refine And.intro (show -2147483648 ≤ (o + q) + 1 ∧ (o + q) + 1 < 2147483648 by omega) ?_
                show cw_R _ _ 13 [vr x_reader_, vr 11534348, vi (w + 1), vi (k_pl (m x_reader_bytes_) (m x_reader_ 1) i), vi 1, vi ((o + q) + 1)] [] (q_m m co hd fi se te re fa (k_pl (m x_reader_bytes_) (m x_reader_ 1) i) (k_en (m x_reader_bytes_) (m x_reader_ 1) (k_pl (m x_reader_bytes_) (m x_reader_ 1) i)) pa op cl sz) _
                have hq : q = (x.length : Int) := by
                  rcases cq with cq | cq <;> omega
                have hk : k_is (m x_reader_bytes_) (k_pl (m x_reader_bytes_) (m x_reader_ 1) i) (k_en (m x_reader_bytes_) (m x_reader_ 1) (k_pl (m x_reader_bytes_) (m x_reader_ 1) i)) x = false := by
                  cases hk : k_is (m x_reader_bytes_) (k_pl (m x_reader_bytes_) (m x_reader_ 1) i) (k_en (m x_reader_bytes_) (m x_reader_ 1) (k_pl (m x_reader_bytes_) (m x_reader_ 1) i)) x with
                  | false => rfl
                  | true => have z := (k_ist.mp hk).1; rcases hI with ⟨h, h2, hI⟩ | ⟨h, hI⟩
                            · omega
                            · rw [hI] at hk; cases hk
                have z : k_wi (m x_reader_bytes_) (k_pl (m x_reader_bytes_) (m x_reader_ 1) i) (k_en (m x_reader_bytes_) (m x_reader_ 1) (k_pl (m x_reader_bytes_) (m x_reader_ 1) i)) (x :: t) w = k_wi (m x_reader_bytes_) (k_pl (m x_reader_bytes_) (m x_reader_ 1) i) (k_en (m x_reader_bytes_) (m x_reader_ 1) (k_pl (m x_reader_bytes_) (m x_reader_ 1) i)) t (w + 1) := by show (if k_is (m x_reader_bytes_) (k_pl (m x_reader_bytes_) (m x_reader_ 1) i) (k_en (m x_reader_bytes_) (m x_reader_ 1) (k_pl (m x_reader_bytes_) (m x_reader_ 1) i)) x = true then w else _) = _; rw [if_neg (by rw [hk]; decide)]
                rw [z] at hQ
                rw [show o + q + 1 = o + (x.length : Int) + 1 by omega]
                exact ihw _ _ ht.2.2.2 hQ (by omega)
              · refine And.intro (fun (c4 : az ≠ (k_en (m x_reader_bytes_) (m x_reader_ 1) (k_pl (m x_reader_bytes_) (m x_reader_ 1) i))) => ?_) (fun (c4 : ¬ (az ≠ (k_en (m x_reader_bytes_) (m x_reader_ 1) (k_pl (m x_reader_bytes_) (m x_reader_ 1) i)))) => ?_)
                · refine And.intro (show -2147483648 ≤ w + 1 ∧ w + 1 < 2147483648 by omega) ?_
                  refine And.intro (show -2147483648 ≤ (o + q) + 1 ∧ (o + q) + 1 < 2147483648 by omega) ?_
                  show cw_R _ _ 13 [vr x_reader_, vr 11534348, vi (w + 1), vi (k_pl (m x_reader_bytes_) (m x_reader_ 1) i), vi 1, vi ((o + q) + 1)] [] (q_m m co hd fi se te re fa (k_pl (m x_reader_bytes_) (m x_reader_ 1) i) (k_en (m x_reader_bytes_) (m x_reader_ 1) (k_pl (m x_reader_bytes_) (m x_reader_ 1) i)) pa op cl sz) _
                  have hq : q = (x.length : Int) := by
                    rcases cq with cq | cq <;> omega
                  have hk : k_is (m x_reader_bytes_) (k_pl (m x_reader_bytes_) (m x_reader_ 1) i) (k_en (m x_reader_bytes_) (m x_reader_ 1) (k_pl (m x_reader_bytes_) (m x_reader_ 1) i)) x = false := by
                    cases hk : k_is (m x_reader_bytes_) (k_pl (m x_reader_bytes_) (m x_reader_ 1) i) (k_en (m x_reader_bytes_) (m x_reader_ 1) (k_pl (m x_reader_bytes_) (m x_reader_ 1) i)) x with
                    | false => rfl
                    | true => have z := (k_ist.mp hk).1; rcases hI with ⟨h, h2, hI⟩ | ⟨h, hI⟩
                              · omega
                              · rw [hI] at hk; cases hk
                  have z : k_wi (m x_reader_bytes_) (k_pl (m x_reader_bytes_) (m x_reader_ 1) i) (k_en (m x_reader_bytes_) (m x_reader_ 1) (k_pl (m x_reader_bytes_) (m x_reader_ 1) i)) (x :: t) w = k_wi (m x_reader_bytes_) (k_pl (m x_reader_bytes_) (m x_reader_ 1) i) (k_en (m x_reader_bytes_) (m x_reader_ 1) (k_pl (m x_reader_bytes_) (m x_reader_ 1) i)) t (w + 1) := by show (if k_is (m x_reader_bytes_) (k_pl (m x_reader_bytes_) (m x_reader_ 1) i) (k_en (m x_reader_bytes_) (m x_reader_ 1) (k_pl (m x_reader_bytes_) (m x_reader_ 1) i)) x = true then w else _) = _; rw [if_neg (by rw [hk]; decide)]
                  rw [z] at hQ
                  rw [show o + q + 1 = o + (x.length : Int) + 1 by omega]
                  exact ihw _ _ ht.2.2.2 hQ (by omega)
                · show Q (some (vi w)) (q_m m co hd fi se te re fa (k_pl (m x_reader_bytes_) (m x_reader_ 1) i) (k_en (m x_reader_bytes_) (m x_reader_ 1) (k_pl (m x_reader_bytes_) (m x_reader_ 1) i)) pa op cl sz)
                  have hq : q = (x.length : Int) := by
                    rcases cq with cq | cq <;> omega
                  have hk : k_is (m x_reader_bytes_) (k_pl (m x_reader_bytes_) (m x_reader_ 1) i) (k_en (m x_reader_bytes_) (m x_reader_ 1) (k_pl (m x_reader_bytes_) (m x_reader_ 1) i)) x = true := by
                    rcases hI with ⟨h, h2, hI⟩ | ⟨h, hI⟩
                    · exact k_ist.mpr ⟨by omega, fun q' hq' => (hI q' (by omega)).2⟩
                    · omega
                  have z : k_wi (m x_reader_bytes_) (k_pl (m x_reader_bytes_) (m x_reader_ 1) i) (k_en (m x_reader_bytes_) (m x_reader_ 1) (k_pl (m x_reader_bytes_) (m x_reader_ 1) i)) (x :: t) w = w := by show (if k_is (m x_reader_bytes_) (k_pl (m x_reader_bytes_) (m x_reader_ 1) i) (k_en (m x_reader_bytes_) (m x_reader_ 1) (k_pl (m x_reader_bytes_) (m x_reader_ 1) i)) x = true then w else _) = _; rw [if_pos hk]
                  rw [z] at hQ
                  exact hQ
            · show cw_C _ _ [vr 11534348, vi (o + q)] (q_m m co hd fi se te re fa (k_pl (m x_reader_bytes_) (m x_reader_ 1) i) (k_en (m x_reader_bytes_) (m x_reader_ 1) (k_pl (m x_reader_bytes_) (m x_reader_ 1) i)) pa op cl sz) _
              refine Js_charAt (B := 23069803) rfl hs1 hs0 rfl (show 0 ≤ o + q ∧ o + q < 17 by omega) (show 0 ≤ m 23069803 (o + q) ∧ m 23069803 (o + q) < 128 by rcases cq with cq | cq <;> omega) ⟨hm, ?_⟩
              refine And.intro (fun (c5 : m 23069803 (o + q) ≠ 32) => ?_) (fun (c5 : ¬ (m 23069803 (o + q) ≠ 32)) => ?_)
              · refine And.intro (fun (c6 : same = 0) => ?_) (fun (c6 : ¬ (same = 0)) => ?_)
                · refine And.intro (show -2147483648 ≤ (o + q) + 1 ∧ (o + q) + 1 < 2147483648 by omega) ?_
                  show cw_R _ _ 13 [vr x_reader_, vr 11534348, vi w, vi az, vi same, vi ((o + q) + 1)] [] (q_m m co hd fi se te re fa (k_pl (m x_reader_bytes_) (m x_reader_ 1) i) (k_en (m x_reader_bytes_) (m x_reader_ 1) (k_pl (m x_reader_bytes_) (m x_reader_ 1) i)) pa op cl sz) _
                  rw [show o + q + 1 = o + (q + 1) by omega]
                  refine ih (q + 1) _ _ (by omega) (by omega) (Or.inr ⟨by omega, ?_⟩)
                  cases hk : k_is (m x_reader_bytes_) (k_pl (m x_reader_bytes_) (m x_reader_ 1) i) (k_en (m x_reader_bytes_) (m x_reader_ 1) (k_pl (m x_reader_bytes_) (m x_reader_ 1) i)) x with
                  | false => rfl
                  | true =>
                    exfalso
                    rcases hI with ⟨h, h2, hI⟩ | ⟨h, hI⟩
                    · have z := k_ist.mp hk; have z2 := z.2 q.toNat (by rcases cq with cq | cq <;> omega); have c2 := ht.1 q.toNat (by rcases cq with cq | cq <;> omega); rw [show o + ((q.toNat : Nat) : Int) = o + q by omega] at c2; rw [show (k_pl (m x_reader_bytes_) (m x_reader_ 1) i) + ((q.toNat : Nat) : Int) = az by omega] at z2; rcases cq with cq | cq <;> omega
                    · rw [hI] at hk; cases hk
                · refine And.intro (fun (c7 : (k_en (m x_reader_bytes_) (m x_reader_ 1) (k_pl (m x_reader_bytes_) (m x_reader_ 1) i)) ≤ az) => ?_) (fun (c7 : ¬ ((k_en (m x_reader_bytes_) (m x_reader_ 1) (k_pl (m x_reader_bytes_) (m x_reader_ 1) i)) ≤ az)) => ?_)
                  · refine And.intro (show -2147483648 ≤ az + 1 ∧ az + 1 < 2147483648 by omega) ?_
                    refine And.intro (show -2147483648 ≤ (o + q) + 1 ∧ (o + q) + 1 < 2147483648 by omega) ?_
                    show cw_R _ _ 13 [vr x_reader_, vr 11534348, vi w, vi (az + 1), vi 0, vi ((o + q) + 1)] [] (q_m m co hd fi se te re fa (k_pl (m x_reader_bytes_) (m x_reader_ 1) i) (k_en (m x_reader_bytes_) (m x_reader_ 1) (k_pl (m x_reader_bytes_) (m x_reader_ 1) i)) pa op cl sz) _
                    rw [show o + q + 1 = o + (q + 1) by omega]
                    refine ih (q + 1) _ _ (by omega) (by omega) (Or.inr ⟨rfl, ?_⟩)
                    cases hk : k_is (m x_reader_bytes_) (k_pl (m x_reader_bytes_) (m x_reader_ 1) i) (k_en (m x_reader_bytes_) (m x_reader_ 1) (k_pl (m x_reader_bytes_) (m x_reader_ 1) i)) x with
                    | false => rfl
                    | true =>
                      exfalso
                      rcases hI with ⟨h, h2, hI⟩ | ⟨h, hI⟩
                      · have z := k_ist.mp hk; have z2 := z.2 q.toNat (by rcases cq with cq | cq <;> omega); have c2 := ht.1 q.toNat (by rcases cq with cq | cq <;> omega); rw [show o + ((q.toNat : Nat) : Int) = o + q by omega] at c2; rw [show (k_pl (m x_reader_bytes_) (m x_reader_ 1) i) + ((q.toNat : Nat) : Int) = az by omega] at z2; rcases cq with cq | cq <;> omega
                      · rw [hI] at hk; cases hk
                  · refine And.intro (show 0 ≤ az ∧ az < 400 by omega) ?_
                    show cw_C _ _ [vr 11534348, vi (o + q)] (q_m m co hd fi se te re fa (k_pl (m x_reader_bytes_) (m x_reader_ 1) i) (k_en (m x_reader_bytes_) (m x_reader_ 1) (k_pl (m x_reader_bytes_) (m x_reader_ 1) i)) pa op cl sz) _
                    refine Js_charAt (B := 23069803) rfl hs1 hs0 rfl (show 0 ≤ o + q ∧ o + q < 17 by omega) (show 0 ≤ m 23069803 (o + q) ∧ m 23069803 (o + q) < 128 by rcases cq with cq | cq <;> omega) ⟨hm, ?_⟩
                    refine And.intro (fun (c8 : m x_reader_bytes_ az ≠ m 23069803 (o + q)) => ?_) (fun (c8 : ¬ (m x_reader_bytes_ az ≠ m 23069803 (o + q))) => ?_)
                    · refine And.intro (show -2147483648 ≤ az + 1 ∧ az + 1 < 2147483648 by omega) ?_
                      refine And.intro (show -2147483648 ≤ (o + q) + 1 ∧ (o + q) + 1 < 2147483648 by omega) ?_
                      show cw_R _ _ 13 [vr x_reader_, vr 11534348, vi w, vi (az + 1), vi 0, vi ((o + q) + 1)] [] (q_m m co hd fi se te re fa (k_pl (m x_reader_bytes_) (m x_reader_ 1) i) (k_en (m x_reader_bytes_) (m x_reader_ 1) (k_pl (m x_reader_bytes_) (m x_reader_ 1) i)) pa op cl sz) _
                      rw [show o + q + 1 = o + (q + 1) by omega]
                      refine ih (q + 1) _ _ (by omega) (by omega) (Or.inr ⟨rfl, ?_⟩)
                      cases hk : k_is (m x_reader_bytes_) (k_pl (m x_reader_bytes_) (m x_reader_ 1) i) (k_en (m x_reader_bytes_) (m x_reader_ 1) (k_pl (m x_reader_bytes_) (m x_reader_ 1) i)) x with
                      | false => rfl
                      | true =>
                        exfalso
                        rcases hI with ⟨h, h2, hI⟩ | ⟨h, hI⟩
                        · have z := k_ist.mp hk; have z2 := z.2 q.toNat (by rcases cq with cq | cq <;> omega); have c2 := ht.1 q.toNat (by rcases cq with cq | cq <;> omega); rw [show o + ((q.toNat : Nat) : Int) = o + q by omega] at c2; rw [show (k_pl (m x_reader_bytes_) (m x_reader_ 1) i) + ((q.toNat : Nat) : Int) = az by omega] at z2; rcases cq with cq | cq <;> omega
                        · rw [hI] at hk; cases hk
                    · refine And.intro (show -2147483648 ≤ az + 1 ∧ az + 1 < 2147483648 by omega) ?_
                      refine And.intro (show -2147483648 ≤ (o + q) + 1 ∧ (o + q) + 1 < 2147483648 by omega) ?_
                      show cw_R _ _ 13 [vr x_reader_, vr 11534348, vi w, vi (az + 1), vi 1, vi ((o + q) + 1)] [] (q_m m co hd fi se te re fa (k_pl (m x_reader_bytes_) (m x_reader_ 1) i) (k_en (m x_reader_bytes_) (m x_reader_ 1) (k_pl (m x_reader_bytes_) (m x_reader_ 1) i)) pa op cl sz) _
                      rw [show o + q + 1 = o + (q + 1) by omega]
                      refine ih (q + 1) _ _ (by omega) (by omega) ?_
                      rcases hI with ⟨h, h2, hI⟩ | ⟨h, hI⟩
                      · refine Or.inl ⟨rfl, by omega, fun q' hq' => ?_⟩
                        by_cases e2 : (q' : Int) = q
                        · have c2 := ht.1 q.toNat (by rcases cq with cq | cq <;> omega); rw [show o + ((q.toNat : Nat) : Int) = o + q by omega] at c2; rw [show q' = q.toNat by omega, show (k_pl (m x_reader_bytes_) (m x_reader_ 1) i) + ((q.toNat : Nat) : Int) = az by omega]; omega
                        · exact hI q' (by omega)
                      · omega
              · refine And.intro (fun (c9 : same = 0) => ?_) (fun (c9 : ¬ (same = 0)) => ?_)
                · refine And.intro (show -2147483648 ≤ w + 1 ∧ w + 1 < 2147483648 by omega) ?_
                  refine And.intro (show -2147483648 ≤ (o + q) + 1 ∧ (o + q) + 1 < 2147483648 by omega) ?_
                  show cw_R _ _ 13 [vr x_reader_, vr 11534348, vi (w + 1), vi (k_pl (m x_reader_bytes_) (m x_reader_ 1) i), vi 1, vi ((o + q) + 1)] [] (q_m m co hd fi se te re fa (k_pl (m x_reader_bytes_) (m x_reader_ 1) i) (k_en (m x_reader_bytes_) (m x_reader_ 1) (k_pl (m x_reader_bytes_) (m x_reader_ 1) i)) pa op cl sz) _
                  have hq : q = (x.length : Int) := by
                    rcases cq with cq | cq <;> omega
                  have hk : k_is (m x_reader_bytes_) (k_pl (m x_reader_bytes_) (m x_reader_ 1) i) (k_en (m x_reader_bytes_) (m x_reader_ 1) (k_pl (m x_reader_bytes_) (m x_reader_ 1) i)) x = false := by
                    cases hk : k_is (m x_reader_bytes_) (k_pl (m x_reader_bytes_) (m x_reader_ 1) i) (k_en (m x_reader_bytes_) (m x_reader_ 1) (k_pl (m x_reader_bytes_) (m x_reader_ 1) i)) x with
                    | false => rfl
                    | true => have z := (k_ist.mp hk).1; rcases hI with ⟨h, h2, hI⟩ | ⟨h, hI⟩
                              · omega
                              · rw [hI] at hk; cases hk
                  have z : k_wi (m x_reader_bytes_) (k_pl (m x_reader_bytes_) (m x_reader_ 1) i) (k_en (m x_reader_bytes_) (m x_reader_ 1) (k_pl (m x_reader_bytes_) (m x_reader_ 1) i)) (x :: t) w = k_wi (m x_reader_bytes_) (k_pl (m x_reader_bytes_) (m x_reader_ 1) i) (k_en (m x_reader_bytes_) (m x_reader_ 1) (k_pl (m x_reader_bytes_) (m x_reader_ 1) i)) t (w + 1) := by show (if k_is (m x_reader_bytes_) (k_pl (m x_reader_bytes_) (m x_reader_ 1) i) (k_en (m x_reader_bytes_) (m x_reader_ 1) (k_pl (m x_reader_bytes_) (m x_reader_ 1) i)) x = true then w else _) = _; rw [if_neg (by rw [hk]; decide)]
                  rw [z] at hQ
                  rw [show o + q + 1 = o + (x.length : Int) + 1 by omega]
                  exact ihw _ _ ht.2.2.2 hQ (by omega)
                · refine And.intro (fun (c10 : az ≠ (k_en (m x_reader_bytes_) (m x_reader_ 1) (k_pl (m x_reader_bytes_) (m x_reader_ 1) i))) => ?_) (fun (c10 : ¬ (az ≠ (k_en (m x_reader_bytes_) (m x_reader_ 1) (k_pl (m x_reader_bytes_) (m x_reader_ 1) i)))) => ?_)
                  · refine And.intro (show -2147483648 ≤ w + 1 ∧ w + 1 < 2147483648 by omega) ?_
                    refine And.intro (show -2147483648 ≤ (o + q) + 1 ∧ (o + q) + 1 < 2147483648 by omega) ?_
                    show cw_R _ _ 13 [vr x_reader_, vr 11534348, vi (w + 1), vi (k_pl (m x_reader_bytes_) (m x_reader_ 1) i), vi 1, vi ((o + q) + 1)] [] (q_m m co hd fi se te re fa (k_pl (m x_reader_bytes_) (m x_reader_ 1) i) (k_en (m x_reader_bytes_) (m x_reader_ 1) (k_pl (m x_reader_bytes_) (m x_reader_ 1) i)) pa op cl sz) _
                    have hq : q = (x.length : Int) := by
                      rcases cq with cq | cq <;> omega
                    have hk : k_is (m x_reader_bytes_) (k_pl (m x_reader_bytes_) (m x_reader_ 1) i) (k_en (m x_reader_bytes_) (m x_reader_ 1) (k_pl (m x_reader_bytes_) (m x_reader_ 1) i)) x = false := by
                      cases hk : k_is (m x_reader_bytes_) (k_pl (m x_reader_bytes_) (m x_reader_ 1) i) (k_en (m x_reader_bytes_) (m x_reader_ 1) (k_pl (m x_reader_bytes_) (m x_reader_ 1) i)) x with
                      | false => rfl
                      | true => have z := (k_ist.mp hk).1; rcases hI with ⟨h, h2, hI⟩ | ⟨h, hI⟩
                                · omega
                                · rw [hI] at hk; cases hk
                    have z : k_wi (m x_reader_bytes_) (k_pl (m x_reader_bytes_) (m x_reader_ 1) i) (k_en (m x_reader_bytes_) (m x_reader_ 1) (k_pl (m x_reader_bytes_) (m x_reader_ 1) i)) (x :: t) w = k_wi (m x_reader_bytes_) (k_pl (m x_reader_bytes_) (m x_reader_ 1) i) (k_en (m x_reader_bytes_) (m x_reader_ 1) (k_pl (m x_reader_bytes_) (m x_reader_ 1) i)) t (w + 1) := by show (if k_is (m x_reader_bytes_) (k_pl (m x_reader_bytes_) (m x_reader_ 1) i) (k_en (m x_reader_bytes_) (m x_reader_ 1) (k_pl (m x_reader_bytes_) (m x_reader_ 1) i)) x = true then w else _) = _; rw [if_neg (by rw [hk]; decide)]
                    rw [z] at hQ
                    rw [show o + q + 1 = o + (x.length : Int) + 1 by omega]
                    exact ihw _ _ ht.2.2.2 hQ (by omega)
                  · show Q (some (vi w)) (q_m m co hd fi se te re fa (k_pl (m x_reader_bytes_) (m x_reader_ 1) i) (k_en (m x_reader_bytes_) (m x_reader_ 1) (k_pl (m x_reader_bytes_) (m x_reader_ 1) i)) pa op cl sz)
                    have hq : q = (x.length : Int) := by
                      rcases cq with cq | cq <;> omega
                    have hk : k_is (m x_reader_bytes_) (k_pl (m x_reader_bytes_) (m x_reader_ 1) i) (k_en (m x_reader_bytes_) (m x_reader_ 1) (k_pl (m x_reader_bytes_) (m x_reader_ 1) i)) x = true := by
                      rcases hI with ⟨h, h2, hI⟩ | ⟨h, hI⟩
                      · exact k_ist.mpr ⟨by omega, fun q' hq' => (hI q' (by omega)).2⟩
                      · omega
                    have z : k_wi (m x_reader_bytes_) (k_pl (m x_reader_bytes_) (m x_reader_ 1) i) (k_en (m x_reader_bytes_) (m x_reader_ 1) (k_pl (m x_reader_bytes_) (m x_reader_ 1) i)) (x :: t) w = w := by show (if k_is (m x_reader_bytes_) (k_pl (m x_reader_bytes_) (m x_reader_ 1) i) (k_en (m x_reader_bytes_) (m x_reader_ 1) (k_pl (m x_reader_bytes_) (m x_reader_ 1) i)) x = true then w else _) = _; rw [if_pos hk]
                    rw [z] at hQ
                    exact hQ
      have z := lw (x.length + 1) 0 (k_pl (m x_reader_bytes_) (m x_reader_ 1) i) 1 (by omega) (by omega) (Or.inl ⟨rfl, by omega, fun q' hq' => by omega⟩)
      rw [show o + 0 = o by omega] at z
      exact z
  refine la_go_C hm 12 [13] ?_
  show cw_R _ _ 13 [vr x_reader_, vr 11534348, vi 0, vi (k_pl (m x_reader_bytes_) (m x_reader_ 1) i), vi 1, vi 0] [] (q_m m co hd fi se te re fa (k_pl (m x_reader_bytes_) (m x_reader_ 1) i) (k_en (m x_reader_bytes_) (m x_reader_ 1) (k_pl (m x_reader_bytes_) (m x_reader_ 1) i)) pa op cl sz) _
  exact main _ 0 0 hstr h (by decide)
theorem Re_wordIn8 {d : Nat} {m : cw_M} {Q : Option cw_V → cw_M → Prop} (hm0 : la_ok m) (hn : 0 ≤ m x_reader_ 1 ∧ m x_reader_ 1 ≤ 400) (hb : ∀ i, 0 ≤ i → i < m x_reader_ 1 → 0 ≤ m x_reader_bytes_ i ∧ m x_reader_bytes_ i ≤ 255) (hs0 : m 12582924 0 = 24119979) (hs1 : m 12582924 1 = 0) (hstr : k_str (m 24119979) 42 0 [[106, 111, 105, 110], [108, 101, 102, 116], [114, 105, 103, 104, 116], [119, 111, 114, 116, 104], [104, 101, 105, 114], [116, 105, 109, 101, 115], [121, 101, 97, 114], [109, 111, 111, 100]]) {co hd fi se te re : Int → Int} {fa st sp pa op cl sz : Int} {i : Nat} (h : Q (some (vi (k_wi (m x_reader_bytes_) (k_pl (m x_reader_bytes_) (m x_reader_ 1) i) (k_en (m x_reader_bytes_) (m x_reader_ 1) (k_pl (m x_reader_bytes_) (m x_reader_ 1) i)) [[106, 111, 105, 110], [108, 101, 102, 116], [114, 105, 103, 104, 116], [119, 111, 114, 116, 104], [104, 101, 105, 114], [116, 105, 109, 101, 115], [121, 101, 97, 114], [109, 111, 111, 100]] 0))) (q_m m co hd fi se te re fa (k_pl (m x_reader_bytes_) (m x_reader_ 1) i) (k_en (m x_reader_bytes_) (m x_reader_ 1) (k_pl (m x_reader_bytes_) (m x_reader_ 1) i)) pa op cl sz)) : cw_C (d + 4) k_Re_wordIn [vr x_reader_, vr 12582924] (q_m m co hd fi se te re fa (k_pl (m x_reader_bytes_) (m x_reader_ 1) i) (k_en (m x_reader_bytes_) (m x_reader_ 1) (k_pl (m x_reader_bytes_) (m x_reader_ 1) i)) pa op cl sz) Q := by
  have hm : la_ok (q_m m co hd fi se te re fa (k_pl (m x_reader_bytes_) (m x_reader_ 1) i) (k_en (m x_reader_bytes_) (m x_reader_ 1) (k_pl (m x_reader_bytes_) (m x_reader_ 1) i)) pa op cl sz) := q_m_ok hm0
  have pr := k_plr (b := (m x_reader_bytes_)) hn.1 i
  have er := Re_enr (b := (m x_reader_bytes_)) hn.1 i
  have main : ∀ (ws : List (List Int)) (o w : Int), k_str (m 24119979) 42 o ws → Q (some (vi (k_wi (m x_reader_bytes_) (k_pl (m x_reader_bytes_) (m x_reader_ 1) i) (k_en (m x_reader_bytes_) (m x_reader_ 1) (k_pl (m x_reader_bytes_) (m x_reader_ 1) i)) ws w))) (q_m m co hd fi se te re fa (k_pl (m x_reader_bytes_) (m x_reader_ 1) i) (k_en (m x_reader_bytes_) (m x_reader_ 1) (k_pl (m x_reader_bytes_) (m x_reader_ 1) i)) pa op cl sz) → (0 ≤ w ∧ w + ws.length < 1000) → cw_R (d + 4) k_Re_wordIn 13 [vr x_reader_, vr 12582924, vi w, vi (k_pl (m x_reader_bytes_) (m x_reader_ 1) i), vi 1, vi o] [] (q_m m co hd fi se te re fa (k_pl (m x_reader_bytes_) (m x_reader_ 1) i) (k_en (m x_reader_bytes_) (m x_reader_ 1) (k_pl (m x_reader_bytes_) (m x_reader_ 1) i)) pa op cl sz) Q := by
    intro ws
    induction ws with
    | nil =>
      intro o w ht hQ hw
      have ht : o = 42 + 1 := ht
      refine la_go_R hm 9 [] ?_
      show cw_C _ _ [vr 12582924] (q_m m co hd fi se te re fa (k_pl (m x_reader_bytes_) (m x_reader_ 1) i) (k_en (m x_reader_bytes_) (m x_reader_ 1) (k_pl (m x_reader_bytes_) (m x_reader_ 1) i)) pa op cl sz) _
      refine Js_length (L := 42) rfl hs1 (by show cw_ln (m 12582924 0) = _; rw [hs0]; rfl) (by decide) (by show 40 ≤ cw_tg (m 12582924 0); rw [hs0]; decide) ⟨hm, ?_⟩
      refine br_t (show 42 < o by omega) ?_
      show Q (some (vi (-1))) (q_m m co hd fi se te re fa (k_pl (m x_reader_bytes_) (m x_reader_ 1) i) (k_en (m x_reader_bytes_) (m x_reader_ 1) (k_pl (m x_reader_bytes_) (m x_reader_ 1) i)) pa op cl sz)
      exact hQ
    | cons x t ihw =>
      intro o w ht hQ hw
      have hwl : w + (x :: t).length = w + 1 + t.length := by rw [List.length_cons]; omega
      have ht : (∀ q : Nat, q < x.length → m 24119979 (o + q) = x.getD q 0 ∧ x.getD q 0 ≠ 32 ∧ 0 ≤ x.getD q 0 ∧ x.getD q 0 < 128) ∧ (o + (x.length : Int) = 42 ∨ (o + (x.length : Int) < 42 ∧ m 24119979 (o + (x.length : Int)) = 32)) ∧ 0 ≤ o ∧ k_str (m 24119979) 42 (o + (x.length : Int) + 1) t := ht
      have ho := ht.2.2.1
      have hxl := ht.2.1
      have lw : ∀ (r : Nat) (q az same : Int), (x.length : Int) < q + r → (0 ≤ q ∧ q ≤ (x.length : Int)) → ((same = 1 ∧ az = (k_pl (m x_reader_bytes_) (m x_reader_ 1) i) + q ∧ ∀ q' : Nat, (q' : Int) < q → (k_pl (m x_reader_bytes_) (m x_reader_ 1) i) + q' < (k_en (m x_reader_bytes_) (m x_reader_ 1) (k_pl (m x_reader_bytes_) (m x_reader_ 1) i)) ∧ m x_reader_bytes_ ((k_pl (m x_reader_bytes_) (m x_reader_ 1) i) + q') = x.getD q' 0) ∨ (same = 0 ∧ k_is (m x_reader_bytes_) (k_pl (m x_reader_bytes_) (m x_reader_ 1) i) (k_en (m x_reader_bytes_) (m x_reader_ 1) (k_pl (m x_reader_bytes_) (m x_reader_ 1) i)) x = false)) → cw_R (d + 4) k_Re_wordIn 13 [vr x_reader_, vr 12582924, vi w, vi az, vi same, vi (o + q)] [] (q_m m co hd fi se te re fa (k_pl (m x_reader_bytes_) (m x_reader_ 1) i) (k_en (m x_reader_bytes_) (m x_reader_ 1) (k_pl (m x_reader_bytes_) (m x_reader_ 1) i)) pa op cl sz) Q := by
        intro r
        induction r with
        | zero =>
          intro q az same hr hq0 hI
          omega
        | succ r ih =>
          intro q az same hr hq0 hI
          have cq : (q = (x.length : Int) ∧ (o + q = 42 ∨ (o + q < 42 ∧ m 24119979 (o + q) = 32))) ∨ (q < (x.length : Int) ∧ o + q < 42 ∧ m 24119979 (o + q) ≠ 32 ∧ 0 ≤ m 24119979 (o + q) ∧ m 24119979 (o + q) < 128) := by
            by_cases z : q = (x.length : Int)
            · left; rw [z]; exact ⟨rfl, ht.2.1⟩
            · right; have c2 := ht.1 q.toNat (by omega); rw [show o + ((q.toNat : Nat) : Int) = o + q by omega] at c2; have c3 := ht.2.1; omega
          have ba : az < (k_en (m x_reader_bytes_) (m x_reader_ 1) (k_pl (m x_reader_bytes_) (m x_reader_ 1) i)) → (k_pl (m x_reader_bytes_) (m x_reader_ 1) i) ≤ az → 0 ≤ m x_reader_bytes_ az ∧ m x_reader_bytes_ az ≤ 255 := fun a c => hb az (by omega) (by omega)
          have hat : same = 1 → (k_pl (m x_reader_bytes_) (m x_reader_ 1) i) ≤ az := fun h => by rcases hI with ⟨-, h2, -⟩ | ⟨h2, -⟩ <;> omega
          have hsm : same = 0 ∨ same = 1 := by rcases hI with ⟨h2, -, -⟩ | ⟨h2, -⟩ <;> omega
          have hat9 : same = 1 → az = (k_pl (m x_reader_bytes_) (m x_reader_ 1) i) + q := fun h => by rcases hI with ⟨-, h2, -⟩ | ⟨h2, -⟩ <;> omega
          refine la_go_R hm 36 [13] ?_
          show cw_C _ _ [vr 12582924] (q_m m co hd fi se te re fa (k_pl (m x_reader_bytes_) (m x_reader_ 1) i) (k_en (m x_reader_bytes_) (m x_reader_ 1) (k_pl (m x_reader_bytes_) (m x_reader_ 1) i)) pa op cl sz) _
          refine Js_length (L := 42) rfl hs1 (by show cw_ln (m 12582924 0) = _; rw [hs0]; rfl) (by decide) (by show 40 ≤ cw_tg (m 12582924 0); rw [hs0]; decide) ⟨hm, ?_⟩
          refine And.intro (fun (c1 : 42 < o + q) => ?_) (fun (c1 : ¬ (42 < o + q)) => ?_)
          · show Q (some (vi (-1))) (q_m m co hd fi se te re fa (k_pl (m x_reader_bytes_) (m x_reader_ 1) i) (k_en (m x_reader_bytes_) (m x_reader_ 1) (k_pl (m x_reader_bytes_) (m x_reader_ 1) i)) pa op cl sz)
            exfalso
            rcases cq with cq | cq <;> omega
          · show cw_C _ _ [vr 12582924] (q_m m co hd fi se te re fa (k_pl (m x_reader_bytes_) (m x_reader_ 1) i) (k_en (m x_reader_bytes_) (m x_reader_ 1) (k_pl (m x_reader_bytes_) (m x_reader_ 1) i)) pa op cl sz) _
            refine Js_length (L := 42) rfl hs1 (by show cw_ln (m 12582924 0) = _; rw [hs0]; rfl) (by decide) (by show 40 ≤ cw_tg (m 12582924 0); rw [hs0]; decide) ⟨hm, ?_⟩
            refine And.intro (fun (c2 : o + q = 42) => ?_) (fun (c2 : ¬ (o + q = 42)) => ?_)
            · refine And.intro (fun (c3 : same = 0) => ?_) (fun (c3 : ¬ (same = 0)) => ?_)
              · refine And.intro (show -2147483648 ≤ w + 1 ∧ w + 1 < 2147483648 by omega) ?_
                refine And.intro (show -2147483648 ≤ (o + q) + 1 ∧ (o + q) + 1 < 2147483648 by omega) ?_
                show cw_R _ _ 13 [vr x_reader_, vr 12582924, vi (w + 1), vi (k_pl (m x_reader_bytes_) (m x_reader_ 1) i), vi 1, vi ((o + q) + 1)] [] (q_m m co hd fi se te re fa (k_pl (m x_reader_bytes_) (m x_reader_ 1) i) (k_en (m x_reader_bytes_) (m x_reader_ 1) (k_pl (m x_reader_bytes_) (m x_reader_ 1) i)) pa op cl sz) _
                have hq : q = (x.length : Int) := by
                  rcases cq with cq | cq <;> omega
                have hk : k_is (m x_reader_bytes_) (k_pl (m x_reader_bytes_) (m x_reader_ 1) i) (k_en (m x_reader_bytes_) (m x_reader_ 1) (k_pl (m x_reader_bytes_) (m x_reader_ 1) i)) x = false := by
                  cases hk : k_is (m x_reader_bytes_) (k_pl (m x_reader_bytes_) (m x_reader_ 1) i) (k_en (m x_reader_bytes_) (m x_reader_ 1) (k_pl (m x_reader_bytes_) (m x_reader_ 1) i)) x with
                  | false => rfl
                  | true => have z := (k_ist.mp hk).1; rcases hI with ⟨h, h2, hI⟩ | ⟨h, hI⟩
                            · omega
                            · rw [hI] at hk; cases hk
                have z : k_wi (m x_reader_bytes_) (k_pl (m x_reader_bytes_) (m x_reader_ 1) i) (k_en (m x_reader_bytes_) (m x_reader_ 1) (k_pl (m x_reader_bytes_) (m x_reader_ 1) i)) (x :: t) w = k_wi (m x_reader_bytes_) (k_pl (m x_reader_bytes_) (m x_reader_ 1) i) (k_en (m x_reader_bytes_) (m x_reader_ 1) (k_pl (m x_reader_bytes_) (m x_reader_ 1) i)) t (w + 1) := by show (if k_is (m x_reader_bytes_) (k_pl (m x_reader_bytes_) (m x_reader_ 1) i) (k_en (m x_reader_bytes_) (m x_reader_ 1) (k_pl (m x_reader_bytes_) (m x_reader_ 1) i)) x = true then w else _) = _; rw [if_neg (by rw [hk]; decide)]
                rw [z] at hQ
                rw [show o + q + 1 = o + (x.length : Int) + 1 by omega]
                exact ihw _ _ ht.2.2.2 hQ (by omega)
              · refine And.intro (fun (c4 : az ≠ (k_en (m x_reader_bytes_) (m x_reader_ 1) (k_pl (m x_reader_bytes_) (m x_reader_ 1) i))) => ?_) (fun (c4 : ¬ (az ≠ (k_en (m x_reader_bytes_) (m x_reader_ 1) (k_pl (m x_reader_bytes_) (m x_reader_ 1) i)))) => ?_)
                · refine And.intro (show -2147483648 ≤ w + 1 ∧ w + 1 < 2147483648 by omega) ?_
                  refine And.intro (show -2147483648 ≤ (o + q) + 1 ∧ (o + q) + 1 < 2147483648 by omega) ?_
                  show cw_R _ _ 13 [vr x_reader_, vr 12582924, vi (w + 1), vi (k_pl (m x_reader_bytes_) (m x_reader_ 1) i), vi 1, vi ((o + q) + 1)] [] (q_m m co hd fi se te re fa (k_pl (m x_reader_bytes_) (m x_reader_ 1) i) (k_en (m x_reader_bytes_) (m x_reader_ 1) (k_pl (m x_reader_bytes_) (m x_reader_ 1) i)) pa op cl sz) _
                  have hq : q = (x.length : Int) := by
                    rcases cq with cq | cq <;> omega
                  have hk : k_is (m x_reader_bytes_) (k_pl (m x_reader_bytes_) (m x_reader_ 1) i) (k_en (m x_reader_bytes_) (m x_reader_ 1) (k_pl (m x_reader_bytes_) (m x_reader_ 1) i)) x = false := by
                    cases hk : k_is (m x_reader_bytes_) (k_pl (m x_reader_bytes_) (m x_reader_ 1) i) (k_en (m x_reader_bytes_) (m x_reader_ 1) (k_pl (m x_reader_bytes_) (m x_reader_ 1) i)) x with
                    | false => rfl
                    | true => have z := (k_ist.mp hk).1; rcases hI with ⟨h, h2, hI⟩ | ⟨h, hI⟩
                              · omega
                              · rw [hI] at hk; cases hk
                  have z : k_wi (m x_reader_bytes_) (k_pl (m x_reader_bytes_) (m x_reader_ 1) i) (k_en (m x_reader_bytes_) (m x_reader_ 1) (k_pl (m x_reader_bytes_) (m x_reader_ 1) i)) (x :: t) w = k_wi (m x_reader_bytes_) (k_pl (m x_reader_bytes_) (m x_reader_ 1) i) (k_en (m x_reader_bytes_) (m x_reader_ 1) (k_pl (m x_reader_bytes_) (m x_reader_ 1) i)) t (w + 1) := by show (if k_is (m x_reader_bytes_) (k_pl (m x_reader_bytes_) (m x_reader_ 1) i) (k_en (m x_reader_bytes_) (m x_reader_ 1) (k_pl (m x_reader_bytes_) (m x_reader_ 1) i)) x = true then w else _) = _; rw [if_neg (by rw [hk]; decide)]
                  rw [z] at hQ
                  rw [show o + q + 1 = o + (x.length : Int) + 1 by omega]
                  exact ihw _ _ ht.2.2.2 hQ (by omega)
                · show Q (some (vi w)) (q_m m co hd fi se te re fa (k_pl (m x_reader_bytes_) (m x_reader_ 1) i) (k_en (m x_reader_bytes_) (m x_reader_ 1) (k_pl (m x_reader_bytes_) (m x_reader_ 1) i)) pa op cl sz)
                  have hq : q = (x.length : Int) := by
                    rcases cq with cq | cq <;> omega
                  have hk : k_is (m x_reader_bytes_) (k_pl (m x_reader_bytes_) (m x_reader_ 1) i) (k_en (m x_reader_bytes_) (m x_reader_ 1) (k_pl (m x_reader_bytes_) (m x_reader_ 1) i)) x = true := by
                    rcases hI with ⟨h, h2, hI⟩ | ⟨h, hI⟩
                    · exact k_ist.mpr ⟨by omega, fun q' hq' => (hI q' (by omega)).2⟩
                    · omega
                  have z : k_wi (m x_reader_bytes_) (k_pl (m x_reader_bytes_) (m x_reader_ 1) i) (k_en (m x_reader_bytes_) (m x_reader_ 1) (k_pl (m x_reader_bytes_) (m x_reader_ 1) i)) (x :: t) w = w := by show (if k_is (m x_reader_bytes_) (k_pl (m x_reader_bytes_) (m x_reader_ 1) i) (k_en (m x_reader_bytes_) (m x_reader_ 1) (k_pl (m x_reader_bytes_) (m x_reader_ 1) i)) x = true then w else _) = _; rw [if_pos hk]
                  rw [z] at hQ
                  exact hQ
            · show cw_C _ _ [vr 12582924, vi (o + q)] (q_m m co hd fi se te re fa (k_pl (m x_reader_bytes_) (m x_reader_ 1) i) (k_en (m x_reader_bytes_) (m x_reader_ 1) (k_pl (m x_reader_bytes_) (m x_reader_ 1) i)) pa op cl sz) _
              refine Js_charAt (B := 24119979) rfl hs1 hs0 rfl (show 0 ≤ o + q ∧ o + q < 42 by omega) (show 0 ≤ m 24119979 (o + q) ∧ m 24119979 (o + q) < 128 by rcases cq with cq | cq <;> omega) ⟨hm, ?_⟩
              refine And.intro (fun (c5 : m 24119979 (o + q) ≠ 32) => ?_) (fun (c5 : ¬ (m 24119979 (o + q) ≠ 32)) => ?_)
              · refine And.intro (fun (c6 : same = 0) => ?_) (fun (c6 : ¬ (same = 0)) => ?_)
                · refine And.intro (show -2147483648 ≤ (o + q) + 1 ∧ (o + q) + 1 < 2147483648 by omega) ?_
                  show cw_R _ _ 13 [vr x_reader_, vr 12582924, vi w, vi az, vi same, vi ((o + q) + 1)] [] (q_m m co hd fi se te re fa (k_pl (m x_reader_bytes_) (m x_reader_ 1) i) (k_en (m x_reader_bytes_) (m x_reader_ 1) (k_pl (m x_reader_bytes_) (m x_reader_ 1) i)) pa op cl sz) _
                  rw [show o + q + 1 = o + (q + 1) by omega]
                  refine ih (q + 1) _ _ (by omega) (by omega) (Or.inr ⟨by omega, ?_⟩)
                  cases hk : k_is (m x_reader_bytes_) (k_pl (m x_reader_bytes_) (m x_reader_ 1) i) (k_en (m x_reader_bytes_) (m x_reader_ 1) (k_pl (m x_reader_bytes_) (m x_reader_ 1) i)) x with
                  | false => rfl
                  | true =>
                    exfalso
                    rcases hI with ⟨h, h2, hI⟩ | ⟨h, hI⟩
                    · have z := k_ist.mp hk; have z2 := z.2 q.toNat (by rcases cq with cq | cq <;> omega); have c2 := ht.1 q.toNat (by rcases cq with cq | cq <;> omega); rw [show o + ((q.toNat : Nat) : Int) = o + q by omega] at c2; rw [show (k_pl (m x_reader_bytes_) (m x_reader_ 1) i) + ((q.toNat : Nat) : Int) = az by omega] at z2; rcases cq with cq | cq <;> omega
                    · rw [hI] at hk; cases hk
                · refine And.intro (fun (c7 : (k_en (m x_reader_bytes_) (m x_reader_ 1) (k_pl (m x_reader_bytes_) (m x_reader_ 1) i)) ≤ az) => ?_) (fun (c7 : ¬ ((k_en (m x_reader_bytes_) (m x_reader_ 1) (k_pl (m x_reader_bytes_) (m x_reader_ 1) i)) ≤ az)) => ?_)
                  · refine And.intro (show -2147483648 ≤ az + 1 ∧ az + 1 < 2147483648 by omega) ?_
                    refine And.intro (show -2147483648 ≤ (o + q) + 1 ∧ (o + q) + 1 < 2147483648 by omega) ?_
                    show cw_R _ _ 13 [vr x_reader_, vr 12582924, vi w, vi (az + 1), vi 0, vi ((o + q) + 1)] [] (q_m m co hd fi se te re fa (k_pl (m x_reader_bytes_) (m x_reader_ 1) i) (k_en (m x_reader_bytes_) (m x_reader_ 1) (k_pl (m x_reader_bytes_) (m x_reader_ 1) i)) pa op cl sz) _
                    rw [show o + q + 1 = o + (q + 1) by omega]
                    refine ih (q + 1) _ _ (by omega) (by omega) (Or.inr ⟨rfl, ?_⟩)
                    cases hk : k_is (m x_reader_bytes_) (k_pl (m x_reader_bytes_) (m x_reader_ 1) i) (k_en (m x_reader_bytes_) (m x_reader_ 1) (k_pl (m x_reader_bytes_) (m x_reader_ 1) i)) x with
                    | false => rfl
                    | true =>
                      exfalso
                      rcases hI with ⟨h, h2, hI⟩ | ⟨h, hI⟩
                      · have z := k_ist.mp hk; have z2 := z.2 q.toNat (by rcases cq with cq | cq <;> omega); have c2 := ht.1 q.toNat (by rcases cq with cq | cq <;> omega); rw [show o + ((q.toNat : Nat) : Int) = o + q by omega] at c2; rw [show (k_pl (m x_reader_bytes_) (m x_reader_ 1) i) + ((q.toNat : Nat) : Int) = az by omega] at z2; rcases cq with cq | cq <;> omega
                      · rw [hI] at hk; cases hk
                  · refine And.intro (show 0 ≤ az ∧ az < 400 by omega) ?_
                    show cw_C _ _ [vr 12582924, vi (o + q)] (q_m m co hd fi se te re fa (k_pl (m x_reader_bytes_) (m x_reader_ 1) i) (k_en (m x_reader_bytes_) (m x_reader_ 1) (k_pl (m x_reader_bytes_) (m x_reader_ 1) i)) pa op cl sz) _
                    refine Js_charAt (B := 24119979) rfl hs1 hs0 rfl (show 0 ≤ o + q ∧ o + q < 42 by omega) (show 0 ≤ m 24119979 (o + q) ∧ m 24119979 (o + q) < 128 by rcases cq with cq | cq <;> omega) ⟨hm, ?_⟩
                    refine And.intro (fun (c8 : m x_reader_bytes_ az ≠ m 24119979 (o + q)) => ?_) (fun (c8 : ¬ (m x_reader_bytes_ az ≠ m 24119979 (o + q))) => ?_)
                    · refine And.intro (show -2147483648 ≤ az + 1 ∧ az + 1 < 2147483648 by omega) ?_
                      refine And.intro (show -2147483648 ≤ (o + q) + 1 ∧ (o + q) + 1 < 2147483648 by omega) ?_
                      show cw_R _ _ 13 [vr x_reader_, vr 12582924, vi w, vi (az + 1), vi 0, vi ((o + q) + 1)] [] (q_m m co hd fi se te re fa (k_pl (m x_reader_bytes_) (m x_reader_ 1) i) (k_en (m x_reader_bytes_) (m x_reader_ 1) (k_pl (m x_reader_bytes_) (m x_reader_ 1) i)) pa op cl sz) _
                      rw [show o + q + 1 = o + (q + 1) by omega]
                      refine ih (q + 1) _ _ (by omega) (by omega) (Or.inr ⟨rfl, ?_⟩)
                      cases hk : k_is (m x_reader_bytes_) (k_pl (m x_reader_bytes_) (m x_reader_ 1) i) (k_en (m x_reader_bytes_) (m x_reader_ 1) (k_pl (m x_reader_bytes_) (m x_reader_ 1) i)) x with
                      | false => rfl
                      | true =>
                        exfalso
                        rcases hI with ⟨h, h2, hI⟩ | ⟨h, hI⟩
                        · have z := k_ist.mp hk; have z2 := z.2 q.toNat (by rcases cq with cq | cq <;> omega); have c2 := ht.1 q.toNat (by rcases cq with cq | cq <;> omega); rw [show o + ((q.toNat : Nat) : Int) = o + q by omega] at c2; rw [show (k_pl (m x_reader_bytes_) (m x_reader_ 1) i) + ((q.toNat : Nat) : Int) = az by omega] at z2; rcases cq with cq | cq <;> omega
                        · rw [hI] at hk; cases hk
                    · refine And.intro (show -2147483648 ≤ az + 1 ∧ az + 1 < 2147483648 by omega) ?_
                      refine And.intro (show -2147483648 ≤ (o + q) + 1 ∧ (o + q) + 1 < 2147483648 by omega) ?_
                      show cw_R _ _ 13 [vr x_reader_, vr 12582924, vi w, vi (az + 1), vi 1, vi ((o + q) + 1)] [] (q_m m co hd fi se te re fa (k_pl (m x_reader_bytes_) (m x_reader_ 1) i) (k_en (m x_reader_bytes_) (m x_reader_ 1) (k_pl (m x_reader_bytes_) (m x_reader_ 1) i)) pa op cl sz) _
                      rw [show o + q + 1 = o + (q + 1) by omega]
                      refine ih (q + 1) _ _ (by omega) (by omega) ?_
                      rcases hI with ⟨h, h2, hI⟩ | ⟨h, hI⟩
                      · refine Or.inl ⟨rfl, by omega, fun q' hq' => ?_⟩
                        by_cases e2 : (q' : Int) = q
                        · have c2 := ht.1 q.toNat (by rcases cq with cq | cq <;> omega); rw [show o + ((q.toNat : Nat) : Int) = o + q by omega] at c2; rw [show q' = q.toNat by omega, show (k_pl (m x_reader_bytes_) (m x_reader_ 1) i) + ((q.toNat : Nat) : Int) = az by omega]; omega
                        · exact hI q' (by omega)
                      · omega
              · refine And.intro (fun (c9 : same = 0) => ?_) (fun (c9 : ¬ (same = 0)) => ?_)
                · refine And.intro (show -2147483648 ≤ w + 1 ∧ w + 1 < 2147483648 by omega) ?_
                  refine And.intro (show -2147483648 ≤ (o + q) + 1 ∧ (o + q) + 1 < 2147483648 by omega) ?_
                  show cw_R _ _ 13 [vr x_reader_, vr 12582924, vi (w + 1), vi (k_pl (m x_reader_bytes_) (m x_reader_ 1) i), vi 1, vi ((o + q) + 1)] [] (q_m m co hd fi se te re fa (k_pl (m x_reader_bytes_) (m x_reader_ 1) i) (k_en (m x_reader_bytes_) (m x_reader_ 1) (k_pl (m x_reader_bytes_) (m x_reader_ 1) i)) pa op cl sz) _
                  have hq : q = (x.length : Int) := by
                    rcases cq with cq | cq <;> omega
                  have hk : k_is (m x_reader_bytes_) (k_pl (m x_reader_bytes_) (m x_reader_ 1) i) (k_en (m x_reader_bytes_) (m x_reader_ 1) (k_pl (m x_reader_bytes_) (m x_reader_ 1) i)) x = false := by
                    cases hk : k_is (m x_reader_bytes_) (k_pl (m x_reader_bytes_) (m x_reader_ 1) i) (k_en (m x_reader_bytes_) (m x_reader_ 1) (k_pl (m x_reader_bytes_) (m x_reader_ 1) i)) x with
                    | false => rfl
                    | true => have z := (k_ist.mp hk).1; rcases hI with ⟨h, h2, hI⟩ | ⟨h, hI⟩
                              · omega
                              · rw [hI] at hk; cases hk
                  have z : k_wi (m x_reader_bytes_) (k_pl (m x_reader_bytes_) (m x_reader_ 1) i) (k_en (m x_reader_bytes_) (m x_reader_ 1) (k_pl (m x_reader_bytes_) (m x_reader_ 1) i)) (x :: t) w = k_wi (m x_reader_bytes_) (k_pl (m x_reader_bytes_) (m x_reader_ 1) i) (k_en (m x_reader_bytes_) (m x_reader_ 1) (k_pl (m x_reader_bytes_) (m x_reader_ 1) i)) t (w + 1) := by show (if k_is (m x_reader_bytes_) (k_pl (m x_reader_bytes_) (m x_reader_ 1) i) (k_en (m x_reader_bytes_) (m x_reader_ 1) (k_pl (m x_reader_bytes_) (m x_reader_ 1) i)) x = true then w else _) = _; rw [if_neg (by rw [hk]; decide)]
                  rw [z] at hQ
                  rw [show o + q + 1 = o + (x.length : Int) + 1 by omega]
                  exact ihw _ _ ht.2.2.2 hQ (by omega)
                · refine And.intro (fun (c10 : az ≠ (k_en (m x_reader_bytes_) (m x_reader_ 1) (k_pl (m x_reader_bytes_) (m x_reader_ 1) i))) => ?_) (fun (c10 : ¬ (az ≠ (k_en (m x_reader_bytes_) (m x_reader_ 1) (k_pl (m x_reader_bytes_) (m x_reader_ 1) i)))) => ?_)
                  · refine And.intro (show -2147483648 ≤ w + 1 ∧ w + 1 < 2147483648 by omega) ?_
                    refine And.intro (show -2147483648 ≤ (o + q) + 1 ∧ (o + q) + 1 < 2147483648 by omega) ?_
                    show cw_R _ _ 13 [vr x_reader_, vr 12582924, vi (w + 1), vi (k_pl (m x_reader_bytes_) (m x_reader_ 1) i), vi 1, vi ((o + q) + 1)] [] (q_m m co hd fi se te re fa (k_pl (m x_reader_bytes_) (m x_reader_ 1) i) (k_en (m x_reader_bytes_) (m x_reader_ 1) (k_pl (m x_reader_bytes_) (m x_reader_ 1) i)) pa op cl sz) _
                    have hq : q = (x.length : Int) := by
                      rcases cq with cq | cq <;> omega
                    have hk : k_is (m x_reader_bytes_) (k_pl (m x_reader_bytes_) (m x_reader_ 1) i) (k_en (m x_reader_bytes_) (m x_reader_ 1) (k_pl (m x_reader_bytes_) (m x_reader_ 1) i)) x = false := by
                      cases hk : k_is (m x_reader_bytes_) (k_pl (m x_reader_bytes_) (m x_reader_ 1) i) (k_en (m x_reader_bytes_) (m x_reader_ 1) (k_pl (m x_reader_bytes_) (m x_reader_ 1) i)) x with
                      | false => rfl
                      | true => have z := (k_ist.mp hk).1; rcases hI with ⟨h, h2, hI⟩ | ⟨h, hI⟩
                                · omega
                                · rw [hI] at hk; cases hk
                    have z : k_wi (m x_reader_bytes_) (k_pl (m x_reader_bytes_) (m x_reader_ 1) i) (k_en (m x_reader_bytes_) (m x_reader_ 1) (k_pl (m x_reader_bytes_) (m x_reader_ 1) i)) (x :: t) w = k_wi (m x_reader_bytes_) (k_pl (m x_reader_bytes_) (m x_reader_ 1) i) (k_en (m x_reader_bytes_) (m x_reader_ 1) (k_pl (m x_reader_bytes_) (m x_reader_ 1) i)) t (w + 1) := by show (if k_is (m x_reader_bytes_) (k_pl (m x_reader_bytes_) (m x_reader_ 1) i) (k_en (m x_reader_bytes_) (m x_reader_ 1) (k_pl (m x_reader_bytes_) (m x_reader_ 1) i)) x = true then w else _) = _; rw [if_neg (by rw [hk]; decide)]
                    rw [z] at hQ
                    rw [show o + q + 1 = o + (x.length : Int) + 1 by omega]
                    exact ihw _ _ ht.2.2.2 hQ (by omega)
                  · show Q (some (vi w)) (q_m m co hd fi se te re fa (k_pl (m x_reader_bytes_) (m x_reader_ 1) i) (k_en (m x_reader_bytes_) (m x_reader_ 1) (k_pl (m x_reader_bytes_) (m x_reader_ 1) i)) pa op cl sz)
                    have hq : q = (x.length : Int) := by
                      rcases cq with cq | cq <;> omega
                    have hk : k_is (m x_reader_bytes_) (k_pl (m x_reader_bytes_) (m x_reader_ 1) i) (k_en (m x_reader_bytes_) (m x_reader_ 1) (k_pl (m x_reader_bytes_) (m x_reader_ 1) i)) x = true := by
                      rcases hI with ⟨h, h2, hI⟩ | ⟨h, hI⟩
                      · exact k_ist.mpr ⟨by omega, fun q' hq' => (hI q' (by omega)).2⟩
                      · omega
                    have z : k_wi (m x_reader_bytes_) (k_pl (m x_reader_bytes_) (m x_reader_ 1) i) (k_en (m x_reader_bytes_) (m x_reader_ 1) (k_pl (m x_reader_bytes_) (m x_reader_ 1) i)) (x :: t) w = w := by show (if k_is (m x_reader_bytes_) (k_pl (m x_reader_bytes_) (m x_reader_ 1) i) (k_en (m x_reader_bytes_) (m x_reader_ 1) (k_pl (m x_reader_bytes_) (m x_reader_ 1) i)) x = true then w else _) = _; rw [if_pos hk]
                    rw [z] at hQ
                    exact hQ
      have z := lw (x.length + 1) 0 (k_pl (m x_reader_bytes_) (m x_reader_ 1) i) 1 (by omega) (by omega) (Or.inl ⟨rfl, by omega, fun q' hq' => by omega⟩)
      rw [show o + 0 = o by omega] at z
      exact z
  refine la_go_C hm 12 [13] ?_
  show cw_R _ _ 13 [vr x_reader_, vr 12582924, vi 0, vi (k_pl (m x_reader_bytes_) (m x_reader_ 1) i), vi 1, vi 0] [] (q_m m co hd fi se te re fa (k_pl (m x_reader_bytes_) (m x_reader_ 1) i) (k_en (m x_reader_bytes_) (m x_reader_ 1) (k_pl (m x_reader_bytes_) (m x_reader_ 1) i)) pa op cl sz) _
  exact main _ 0 0 hstr h (by decide)
theorem Re_wordIn9 {d : Nat} {m : cw_M} {Q : Option cw_V → cw_M → Prop} (hm0 : la_ok m) (hn : 0 ≤ m x_reader_ 1 ∧ m x_reader_ 1 ≤ 400) (hb : ∀ i, 0 ≤ i → i < m x_reader_ 1 → 0 ≤ m x_reader_bytes_ i ∧ m x_reader_bytes_ i ≤ 255) (hs0 : m 13631500 0 = 25167019) (hs1 : m 13631500 1 = 0) (hstr : k_str (m 25167019) 18 0 [[109, 97, 114, 107], [116, 117, 114, 110], [100, 105, 101], [112, 97, 115, 115]]) {co hd fi se te re : Int → Int} {fa st sp pa op cl sz : Int} {i : Nat} (h : Q (some (vi (k_wi (m x_reader_bytes_) (k_pl (m x_reader_bytes_) (m x_reader_ 1) i) (k_en (m x_reader_bytes_) (m x_reader_ 1) (k_pl (m x_reader_bytes_) (m x_reader_ 1) i)) [[109, 97, 114, 107], [116, 117, 114, 110], [100, 105, 101], [112, 97, 115, 115]] 0))) (q_m m co hd fi se te re fa (k_pl (m x_reader_bytes_) (m x_reader_ 1) i) (k_en (m x_reader_bytes_) (m x_reader_ 1) (k_pl (m x_reader_bytes_) (m x_reader_ 1) i)) pa op cl sz)) : cw_C (d + 4) k_Re_wordIn [vr x_reader_, vr 13631500] (q_m m co hd fi se te re fa (k_pl (m x_reader_bytes_) (m x_reader_ 1) i) (k_en (m x_reader_bytes_) (m x_reader_ 1) (k_pl (m x_reader_bytes_) (m x_reader_ 1) i)) pa op cl sz) Q := by
  have hm : la_ok (q_m m co hd fi se te re fa (k_pl (m x_reader_bytes_) (m x_reader_ 1) i) (k_en (m x_reader_bytes_) (m x_reader_ 1) (k_pl (m x_reader_bytes_) (m x_reader_ 1) i)) pa op cl sz) := q_m_ok hm0
  have pr := k_plr (b := (m x_reader_bytes_)) hn.1 i
  have er := Re_enr (b := (m x_reader_bytes_)) hn.1 i
  have main : ∀ (ws : List (List Int)) (o w : Int), k_str (m 25167019) 18 o ws → Q (some (vi (k_wi (m x_reader_bytes_) (k_pl (m x_reader_bytes_) (m x_reader_ 1) i) (k_en (m x_reader_bytes_) (m x_reader_ 1) (k_pl (m x_reader_bytes_) (m x_reader_ 1) i)) ws w))) (q_m m co hd fi se te re fa (k_pl (m x_reader_bytes_) (m x_reader_ 1) i) (k_en (m x_reader_bytes_) (m x_reader_ 1) (k_pl (m x_reader_bytes_) (m x_reader_ 1) i)) pa op cl sz) → (0 ≤ w ∧ w + ws.length < 1000) → cw_R (d + 4) k_Re_wordIn 13 [vr x_reader_, vr 13631500, vi w, vi (k_pl (m x_reader_bytes_) (m x_reader_ 1) i), vi 1, vi o] [] (q_m m co hd fi se te re fa (k_pl (m x_reader_bytes_) (m x_reader_ 1) i) (k_en (m x_reader_bytes_) (m x_reader_ 1) (k_pl (m x_reader_bytes_) (m x_reader_ 1) i)) pa op cl sz) Q := by
    intro ws
    induction ws with
    | nil =>
      intro o w ht hQ hw
      have ht : o = 18 + 1 := ht
      refine la_go_R hm 9 [] ?_
      show cw_C _ _ [vr 13631500] (q_m m co hd fi se te re fa (k_pl (m x_reader_bytes_) (m x_reader_ 1) i) (k_en (m x_reader_bytes_) (m x_reader_ 1) (k_pl (m x_reader_bytes_) (m x_reader_ 1) i)) pa op cl sz) _
      refine Js_length (L := 18) rfl hs1 (by show cw_ln (m 13631500 0) = _; rw [hs0]; rfl) (by decide) (by show 40 ≤ cw_tg (m 13631500 0); rw [hs0]; decide) ⟨hm, ?_⟩
      refine br_t (show 18 < o by omega) ?_
      show Q (some (vi (-1))) (q_m m co hd fi se te re fa (k_pl (m x_reader_bytes_) (m x_reader_ 1) i) (k_en (m x_reader_bytes_) (m x_reader_ 1) (k_pl (m x_reader_bytes_) (m x_reader_ 1) i)) pa op cl sz)
      exact hQ
    | cons x t ihw =>
      intro o w ht hQ hw
      have hwl : w + (x :: t).length = w + 1 + t.length := by rw [List.length_cons]; omega
      have ht : (∀ q : Nat, q < x.length → m 25167019 (o + q) = x.getD q 0 ∧ x.getD q 0 ≠ 32 ∧ 0 ≤ x.getD q 0 ∧ x.getD q 0 < 128) ∧ (o + (x.length : Int) = 18 ∨ (o + (x.length : Int) < 18 ∧ m 25167019 (o + (x.length : Int)) = 32)) ∧ 0 ≤ o ∧ k_str (m 25167019) 18 (o + (x.length : Int) + 1) t := ht
      have ho := ht.2.2.1
      have hxl := ht.2.1
      have lw : ∀ (r : Nat) (q az same : Int), (x.length : Int) < q + r → (0 ≤ q ∧ q ≤ (x.length : Int)) → ((same = 1 ∧ az = (k_pl (m x_reader_bytes_) (m x_reader_ 1) i) + q ∧ ∀ q' : Nat, (q' : Int) < q → (k_pl (m x_reader_bytes_) (m x_reader_ 1) i) + q' < (k_en (m x_reader_bytes_) (m x_reader_ 1) (k_pl (m x_reader_bytes_) (m x_reader_ 1) i)) ∧ m x_reader_bytes_ ((k_pl (m x_reader_bytes_) (m x_reader_ 1) i) + q') = x.getD q' 0) ∨ (same = 0 ∧ k_is (m x_reader_bytes_) (k_pl (m x_reader_bytes_) (m x_reader_ 1) i) (k_en (m x_reader_bytes_) (m x_reader_ 1) (k_pl (m x_reader_bytes_) (m x_reader_ 1) i)) x = false)) → cw_R (d + 4) k_Re_wordIn 13 [vr x_reader_, vr 13631500, vi w, vi az, vi same, vi (o + q)] [] (q_m m co hd fi se te re fa (k_pl (m x_reader_bytes_) (m x_reader_ 1) i) (k_en (m x_reader_bytes_) (m x_reader_ 1) (k_pl (m x_reader_bytes_) (m x_reader_ 1) i)) pa op cl sz) Q := by
        intro r
        induction r with
        | zero =>
          intro q az same hr hq0 hI
          omega
        | succ r ih =>
          intro q az same hr hq0 hI
          have cq : (q = (x.length : Int) ∧ (o + q = 18 ∨ (o + q < 18 ∧ m 25167019 (o + q) = 32))) ∨ (q < (x.length : Int) ∧ o + q < 18 ∧ m 25167019 (o + q) ≠ 32 ∧ 0 ≤ m 25167019 (o + q) ∧ m 25167019 (o + q) < 128) := by
            by_cases z : q = (x.length : Int)
            · left; rw [z]; exact ⟨rfl, ht.2.1⟩
            · right; have c2 := ht.1 q.toNat (by omega); rw [show o + ((q.toNat : Nat) : Int) = o + q by omega] at c2; have c3 := ht.2.1; omega
          have ba : az < (k_en (m x_reader_bytes_) (m x_reader_ 1) (k_pl (m x_reader_bytes_) (m x_reader_ 1) i)) → (k_pl (m x_reader_bytes_) (m x_reader_ 1) i) ≤ az → 0 ≤ m x_reader_bytes_ az ∧ m x_reader_bytes_ az ≤ 255 := fun a c => hb az (by omega) (by omega)
          have hat : same = 1 → (k_pl (m x_reader_bytes_) (m x_reader_ 1) i) ≤ az := fun h => by rcases hI with ⟨-, h2, -⟩ | ⟨h2, -⟩ <;> omega
          have hsm : same = 0 ∨ same = 1 := by rcases hI with ⟨h2, -, -⟩ | ⟨h2, -⟩ <;> omega
          have hat9 : same = 1 → az = (k_pl (m x_reader_bytes_) (m x_reader_ 1) i) + q := fun h => by rcases hI with ⟨-, h2, -⟩ | ⟨h2, -⟩ <;> omega
          refine la_go_R hm 36 [13] ?_
          show cw_C _ _ [vr 13631500] (q_m m co hd fi se te re fa (k_pl (m x_reader_bytes_) (m x_reader_ 1) i) (k_en (m x_reader_bytes_) (m x_reader_ 1) (k_pl (m x_reader_bytes_) (m x_reader_ 1) i)) pa op cl sz) _
          refine Js_length (L := 18) rfl hs1 (by show cw_ln (m 13631500 0) = _; rw [hs0]; rfl) (by decide) (by show 40 ≤ cw_tg (m 13631500 0); rw [hs0]; decide) ⟨hm, ?_⟩
          refine And.intro (fun (c1 : 18 < o + q) => ?_) (fun (c1 : ¬ (18 < o + q)) => ?_)
          · show Q (some (vi (-1))) (q_m m co hd fi se te re fa (k_pl (m x_reader_bytes_) (m x_reader_ 1) i) (k_en (m x_reader_bytes_) (m x_reader_ 1) (k_pl (m x_reader_bytes_) (m x_reader_ 1) i)) pa op cl sz)
            exfalso
            rcases cq with cq | cq <;> omega
          · show cw_C _ _ [vr 13631500] (q_m m co hd fi se te re fa (k_pl (m x_reader_bytes_) (m x_reader_ 1) i) (k_en (m x_reader_bytes_) (m x_reader_ 1) (k_pl (m x_reader_bytes_) (m x_reader_ 1) i)) pa op cl sz) _
            refine Js_length (L := 18) rfl hs1 (by show cw_ln (m 13631500 0) = _; rw [hs0]; rfl) (by decide) (by show 40 ≤ cw_tg (m 13631500 0); rw [hs0]; decide) ⟨hm, ?_⟩
            refine And.intro (fun (c2 : o + q = 18) => ?_) (fun (c2 : ¬ (o + q = 18)) => ?_)
            · refine And.intro (fun (c3 : same = 0) => ?_) (fun (c3 : ¬ (same = 0)) => ?_)
              · refine And.intro (show -2147483648 ≤ w + 1 ∧ w + 1 < 2147483648 by omega) ?_
                refine And.intro (show -2147483648 ≤ (o + q) + 1 ∧ (o + q) + 1 < 2147483648 by omega) ?_
                show cw_R _ _ 13 [vr x_reader_, vr 13631500, vi (w + 1), vi (k_pl (m x_reader_bytes_) (m x_reader_ 1) i), vi 1, vi ((o + q) + 1)] [] (q_m m co hd fi se te re fa (k_pl (m x_reader_bytes_) (m x_reader_ 1) i) (k_en (m x_reader_bytes_) (m x_reader_ 1) (k_pl (m x_reader_bytes_) (m x_reader_ 1) i)) pa op cl sz) _
                have hq : q = (x.length : Int) := by
                  rcases cq with cq | cq <;> omega
                have hk : k_is (m x_reader_bytes_) (k_pl (m x_reader_bytes_) (m x_reader_ 1) i) (k_en (m x_reader_bytes_) (m x_reader_ 1) (k_pl (m x_reader_bytes_) (m x_reader_ 1) i)) x = false := by
                  cases hk : k_is (m x_reader_bytes_) (k_pl (m x_reader_bytes_) (m x_reader_ 1) i) (k_en (m x_reader_bytes_) (m x_reader_ 1) (k_pl (m x_reader_bytes_) (m x_reader_ 1) i)) x with
                  | false => rfl
                  | true => have z := (k_ist.mp hk).1; rcases hI with ⟨h, h2, hI⟩ | ⟨h, hI⟩
                            · omega
                            · rw [hI] at hk; cases hk
                have z : k_wi (m x_reader_bytes_) (k_pl (m x_reader_bytes_) (m x_reader_ 1) i) (k_en (m x_reader_bytes_) (m x_reader_ 1) (k_pl (m x_reader_bytes_) (m x_reader_ 1) i)) (x :: t) w = k_wi (m x_reader_bytes_) (k_pl (m x_reader_bytes_) (m x_reader_ 1) i) (k_en (m x_reader_bytes_) (m x_reader_ 1) (k_pl (m x_reader_bytes_) (m x_reader_ 1) i)) t (w + 1) := by show (if k_is (m x_reader_bytes_) (k_pl (m x_reader_bytes_) (m x_reader_ 1) i) (k_en (m x_reader_bytes_) (m x_reader_ 1) (k_pl (m x_reader_bytes_) (m x_reader_ 1) i)) x = true then w else _) = _; rw [if_neg (by rw [hk]; decide)]
                rw [z] at hQ
                rw [show o + q + 1 = o + (x.length : Int) + 1 by omega]
                exact ihw _ _ ht.2.2.2 hQ (by omega)
              · refine And.intro (fun (c4 : az ≠ (k_en (m x_reader_bytes_) (m x_reader_ 1) (k_pl (m x_reader_bytes_) (m x_reader_ 1) i))) => ?_) (fun (c4 : ¬ (az ≠ (k_en (m x_reader_bytes_) (m x_reader_ 1) (k_pl (m x_reader_bytes_) (m x_reader_ 1) i)))) => ?_)
                · refine And.intro (show -2147483648 ≤ w + 1 ∧ w + 1 < 2147483648 by omega) ?_
                  refine And.intro (show -2147483648 ≤ (o + q) + 1 ∧ (o + q) + 1 < 2147483648 by omega) ?_
                  show cw_R _ _ 13 [vr x_reader_, vr 13631500, vi (w + 1), vi (k_pl (m x_reader_bytes_) (m x_reader_ 1) i), vi 1, vi ((o + q) + 1)] [] (q_m m co hd fi se te re fa (k_pl (m x_reader_bytes_) (m x_reader_ 1) i) (k_en (m x_reader_bytes_) (m x_reader_ 1) (k_pl (m x_reader_bytes_) (m x_reader_ 1) i)) pa op cl sz) _
                  have hq : q = (x.length : Int) := by
                    rcases cq with cq | cq <;> omega
                  have hk : k_is (m x_reader_bytes_) (k_pl (m x_reader_bytes_) (m x_reader_ 1) i) (k_en (m x_reader_bytes_) (m x_reader_ 1) (k_pl (m x_reader_bytes_) (m x_reader_ 1) i)) x = false := by
                    cases hk : k_is (m x_reader_bytes_) (k_pl (m x_reader_bytes_) (m x_reader_ 1) i) (k_en (m x_reader_bytes_) (m x_reader_ 1) (k_pl (m x_reader_bytes_) (m x_reader_ 1) i)) x with
                    | false => rfl
                    | true => have z := (k_ist.mp hk).1; rcases hI with ⟨h, h2, hI⟩ | ⟨h, hI⟩
                              · omega
                              · rw [hI] at hk; cases hk
                  have z : k_wi (m x_reader_bytes_) (k_pl (m x_reader_bytes_) (m x_reader_ 1) i) (k_en (m x_reader_bytes_) (m x_reader_ 1) (k_pl (m x_reader_bytes_) (m x_reader_ 1) i)) (x :: t) w = k_wi (m x_reader_bytes_) (k_pl (m x_reader_bytes_) (m x_reader_ 1) i) (k_en (m x_reader_bytes_) (m x_reader_ 1) (k_pl (m x_reader_bytes_) (m x_reader_ 1) i)) t (w + 1) := by show (if k_is (m x_reader_bytes_) (k_pl (m x_reader_bytes_) (m x_reader_ 1) i) (k_en (m x_reader_bytes_) (m x_reader_ 1) (k_pl (m x_reader_bytes_) (m x_reader_ 1) i)) x = true then w else _) = _; rw [if_neg (by rw [hk]; decide)]
                  rw [z] at hQ
                  rw [show o + q + 1 = o + (x.length : Int) + 1 by omega]
                  exact ihw _ _ ht.2.2.2 hQ (by omega)
                · show Q (some (vi w)) (q_m m co hd fi se te re fa (k_pl (m x_reader_bytes_) (m x_reader_ 1) i) (k_en (m x_reader_bytes_) (m x_reader_ 1) (k_pl (m x_reader_bytes_) (m x_reader_ 1) i)) pa op cl sz)
                  have hq : q = (x.length : Int) := by
                    rcases cq with cq | cq <;> omega
                  have hk : k_is (m x_reader_bytes_) (k_pl (m x_reader_bytes_) (m x_reader_ 1) i) (k_en (m x_reader_bytes_) (m x_reader_ 1) (k_pl (m x_reader_bytes_) (m x_reader_ 1) i)) x = true := by
                    rcases hI with ⟨h, h2, hI⟩ | ⟨h, hI⟩
                    · exact k_ist.mpr ⟨by omega, fun q' hq' => (hI q' (by omega)).2⟩
                    · omega
                  have z : k_wi (m x_reader_bytes_) (k_pl (m x_reader_bytes_) (m x_reader_ 1) i) (k_en (m x_reader_bytes_) (m x_reader_ 1) (k_pl (m x_reader_bytes_) (m x_reader_ 1) i)) (x :: t) w = w := by show (if k_is (m x_reader_bytes_) (k_pl (m x_reader_bytes_) (m x_reader_ 1) i) (k_en (m x_reader_bytes_) (m x_reader_ 1) (k_pl (m x_reader_bytes_) (m x_reader_ 1) i)) x = true then w else _) = _; rw [if_pos hk]
                  rw [z] at hQ
                  exact hQ
            · show cw_C _ _ [vr 13631500, vi (o + q)] (q_m m co hd fi se te re fa (k_pl (m x_reader_bytes_) (m x_reader_ 1) i) (k_en (m x_reader_bytes_) (m x_reader_ 1) (k_pl (m x_reader_bytes_) (m x_reader_ 1) i)) pa op cl sz) _
              refine Js_charAt (B := 25167019) rfl hs1 hs0 rfl (show 0 ≤ o + q ∧ o + q < 18 by omega) (show 0 ≤ m 25167019 (o + q) ∧ m 25167019 (o + q) < 128 by rcases cq with cq | cq <;> omega) ⟨hm, ?_⟩
              refine And.intro (fun (c5 : m 25167019 (o + q) ≠ 32) => ?_) (fun (c5 : ¬ (m 25167019 (o + q) ≠ 32)) => ?_)
              · refine And.intro (fun (c6 : same = 0) => ?_) (fun (c6 : ¬ (same = 0)) => ?_)
                · refine And.intro (show -2147483648 ≤ (o + q) + 1 ∧ (o + q) + 1 < 2147483648 by omega) ?_
                  show cw_R _ _ 13 [vr x_reader_, vr 13631500, vi w, vi az, vi same, vi ((o + q) + 1)] [] (q_m m co hd fi se te re fa (k_pl (m x_reader_bytes_) (m x_reader_ 1) i) (k_en (m x_reader_bytes_) (m x_reader_ 1) (k_pl (m x_reader_bytes_) (m x_reader_ 1) i)) pa op cl sz) _
                  rw [show o + q + 1 = o + (q + 1) by omega]
                  refine ih (q + 1) _ _ (by omega) (by omega) (Or.inr ⟨by omega, ?_⟩)
                  cases hk : k_is (m x_reader_bytes_) (k_pl (m x_reader_bytes_) (m x_reader_ 1) i) (k_en (m x_reader_bytes_) (m x_reader_ 1) (k_pl (m x_reader_bytes_) (m x_reader_ 1) i)) x with
                  | false => rfl
                  | true =>
                    exfalso
                    rcases hI with ⟨h, h2, hI⟩ | ⟨h, hI⟩
                    · have z := k_ist.mp hk; have z2 := z.2 q.toNat (by rcases cq with cq | cq <;> omega); have c2 := ht.1 q.toNat (by rcases cq with cq | cq <;> omega); rw [show o + ((q.toNat : Nat) : Int) = o + q by omega] at c2; rw [show (k_pl (m x_reader_bytes_) (m x_reader_ 1) i) + ((q.toNat : Nat) : Int) = az by omega] at z2; rcases cq with cq | cq <;> omega
                    · rw [hI] at hk; cases hk
                · refine And.intro (fun (c7 : (k_en (m x_reader_bytes_) (m x_reader_ 1) (k_pl (m x_reader_bytes_) (m x_reader_ 1) i)) ≤ az) => ?_) (fun (c7 : ¬ ((k_en (m x_reader_bytes_) (m x_reader_ 1) (k_pl (m x_reader_bytes_) (m x_reader_ 1) i)) ≤ az)) => ?_)
                  · refine And.intro (show -2147483648 ≤ az + 1 ∧ az + 1 < 2147483648 by omega) ?_
                    refine And.intro (show -2147483648 ≤ (o + q) + 1 ∧ (o + q) + 1 < 2147483648 by omega) ?_
                    show cw_R _ _ 13 [vr x_reader_, vr 13631500, vi w, vi (az + 1), vi 0, vi ((o + q) + 1)] [] (q_m m co hd fi se te re fa (k_pl (m x_reader_bytes_) (m x_reader_ 1) i) (k_en (m x_reader_bytes_) (m x_reader_ 1) (k_pl (m x_reader_bytes_) (m x_reader_ 1) i)) pa op cl sz) _
                    rw [show o + q + 1 = o + (q + 1) by omega]
                    refine ih (q + 1) _ _ (by omega) (by omega) (Or.inr ⟨rfl, ?_⟩)
                    cases hk : k_is (m x_reader_bytes_) (k_pl (m x_reader_bytes_) (m x_reader_ 1) i) (k_en (m x_reader_bytes_) (m x_reader_ 1) (k_pl (m x_reader_bytes_) (m x_reader_ 1) i)) x with
                    | false => rfl
                    | true =>
                      exfalso
                      rcases hI with ⟨h, h2, hI⟩ | ⟨h, hI⟩
                      · have z := k_ist.mp hk; have z2 := z.2 q.toNat (by rcases cq with cq | cq <;> omega); have c2 := ht.1 q.toNat (by rcases cq with cq | cq <;> omega); rw [show o + ((q.toNat : Nat) : Int) = o + q by omega] at c2; rw [show (k_pl (m x_reader_bytes_) (m x_reader_ 1) i) + ((q.toNat : Nat) : Int) = az by omega] at z2; rcases cq with cq | cq <;> omega
                      · rw [hI] at hk; cases hk
                  · refine And.intro (show 0 ≤ az ∧ az < 400 by omega) ?_
                    show cw_C _ _ [vr 13631500, vi (o + q)] (q_m m co hd fi se te re fa (k_pl (m x_reader_bytes_) (m x_reader_ 1) i) (k_en (m x_reader_bytes_) (m x_reader_ 1) (k_pl (m x_reader_bytes_) (m x_reader_ 1) i)) pa op cl sz) _
                    refine Js_charAt (B := 25167019) rfl hs1 hs0 rfl (show 0 ≤ o + q ∧ o + q < 18 by omega) (show 0 ≤ m 25167019 (o + q) ∧ m 25167019 (o + q) < 128 by rcases cq with cq | cq <;> omega) ⟨hm, ?_⟩
                    refine And.intro (fun (c8 : m x_reader_bytes_ az ≠ m 25167019 (o + q)) => ?_) (fun (c8 : ¬ (m x_reader_bytes_ az ≠ m 25167019 (o + q))) => ?_)
                    · refine And.intro (show -2147483648 ≤ az + 1 ∧ az + 1 < 2147483648 by omega) ?_
                      refine And.intro (show -2147483648 ≤ (o + q) + 1 ∧ (o + q) + 1 < 2147483648 by omega) ?_
                      show cw_R _ _ 13 [vr x_reader_, vr 13631500, vi w, vi (az + 1), vi 0, vi ((o + q) + 1)] [] (q_m m co hd fi se te re fa (k_pl (m x_reader_bytes_) (m x_reader_ 1) i) (k_en (m x_reader_bytes_) (m x_reader_ 1) (k_pl (m x_reader_bytes_) (m x_reader_ 1) i)) pa op cl sz) _
                      rw [show o + q + 1 = o + (q + 1) by omega]
                      refine ih (q + 1) _ _ (by omega) (by omega) (Or.inr ⟨rfl, ?_⟩)
                      cases hk : k_is (m x_reader_bytes_) (k_pl (m x_reader_bytes_) (m x_reader_ 1) i) (k_en (m x_reader_bytes_) (m x_reader_ 1) (k_pl (m x_reader_bytes_) (m x_reader_ 1) i)) x with
                      | false => rfl
                      | true =>
                        exfalso
                        rcases hI with ⟨h, h2, hI⟩ | ⟨h, hI⟩
                        · have z := k_ist.mp hk; have z2 := z.2 q.toNat (by rcases cq with cq | cq <;> omega); have c2 := ht.1 q.toNat (by rcases cq with cq | cq <;> omega); rw [show o + ((q.toNat : Nat) : Int) = o + q by omega] at c2; rw [show (k_pl (m x_reader_bytes_) (m x_reader_ 1) i) + ((q.toNat : Nat) : Int) = az by omega] at z2; rcases cq with cq | cq <;> omega
                        · rw [hI] at hk; cases hk
                    · refine And.intro (show -2147483648 ≤ az + 1 ∧ az + 1 < 2147483648 by omega) ?_
                      refine And.intro (show -2147483648 ≤ (o + q) + 1 ∧ (o + q) + 1 < 2147483648 by omega) ?_
                      show cw_R _ _ 13 [vr x_reader_, vr 13631500, vi w, vi (az + 1), vi 1, vi ((o + q) + 1)] [] (q_m m co hd fi se te re fa (k_pl (m x_reader_bytes_) (m x_reader_ 1) i) (k_en (m x_reader_bytes_) (m x_reader_ 1) (k_pl (m x_reader_bytes_) (m x_reader_ 1) i)) pa op cl sz) _
                      rw [show o + q + 1 = o + (q + 1) by omega]
                      refine ih (q + 1) _ _ (by omega) (by omega) ?_
                      rcases hI with ⟨h, h2, hI⟩ | ⟨h, hI⟩
                      · refine Or.inl ⟨rfl, by omega, fun q' hq' => ?_⟩
                        by_cases e2 : (q' : Int) = q
                        · have c2 := ht.1 q.toNat (by rcases cq with cq | cq <;> omega); rw [show o + ((q.toNat : Nat) : Int) = o + q by omega] at c2; rw [show q' = q.toNat by omega, show (k_pl (m x_reader_bytes_) (m x_reader_ 1) i) + ((q.toNat : Nat) : Int) = az by omega]; omega
                        · exact hI q' (by omega)
                      · omega
              · refine And.intro (fun (c9 : same = 0) => ?_) (fun (c9 : ¬ (same = 0)) => ?_)
                · refine And.intro (show -2147483648 ≤ w + 1 ∧ w + 1 < 2147483648 by omega) ?_
                  refine And.intro (show -2147483648 ≤ (o + q) + 1 ∧ (o + q) + 1 < 2147483648 by omega) ?_
                  show cw_R _ _ 13 [vr x_reader_, vr 13631500, vi (w + 1), vi (k_pl (m x_reader_bytes_) (m x_reader_ 1) i), vi 1, vi ((o + q) + 1)] [] (q_m m co hd fi se te re fa (k_pl (m x_reader_bytes_) (m x_reader_ 1) i) (k_en (m x_reader_bytes_) (m x_reader_ 1) (k_pl (m x_reader_bytes_) (m x_reader_ 1) i)) pa op cl sz) _
                  have hq : q = (x.length : Int) := by
                    rcases cq with cq | cq <;> omega
                  have hk : k_is (m x_reader_bytes_) (k_pl (m x_reader_bytes_) (m x_reader_ 1) i) (k_en (m x_reader_bytes_) (m x_reader_ 1) (k_pl (m x_reader_bytes_) (m x_reader_ 1) i)) x = false := by
                    cases hk : k_is (m x_reader_bytes_) (k_pl (m x_reader_bytes_) (m x_reader_ 1) i) (k_en (m x_reader_bytes_) (m x_reader_ 1) (k_pl (m x_reader_bytes_) (m x_reader_ 1) i)) x with
                    | false => rfl
                    | true => have z := (k_ist.mp hk).1; rcases hI with ⟨h, h2, hI⟩ | ⟨h, hI⟩
                              · omega
                              · rw [hI] at hk; cases hk
                  have z : k_wi (m x_reader_bytes_) (k_pl (m x_reader_bytes_) (m x_reader_ 1) i) (k_en (m x_reader_bytes_) (m x_reader_ 1) (k_pl (m x_reader_bytes_) (m x_reader_ 1) i)) (x :: t) w = k_wi (m x_reader_bytes_) (k_pl (m x_reader_bytes_) (m x_reader_ 1) i) (k_en (m x_reader_bytes_) (m x_reader_ 1) (k_pl (m x_reader_bytes_) (m x_reader_ 1) i)) t (w + 1) := by show (if k_is (m x_reader_bytes_) (k_pl (m x_reader_bytes_) (m x_reader_ 1) i) (k_en (m x_reader_bytes_) (m x_reader_ 1) (k_pl (m x_reader_bytes_) (m x_reader_ 1) i)) x = true then w else _) = _; rw [if_neg (by rw [hk]; decide)]
                  rw [z] at hQ
                  rw [show o + q + 1 = o + (x.length : Int) + 1 by omega]
                  exact ihw _ _ ht.2.2.2 hQ (by omega)
                · refine And.intro (fun (c10 : az ≠ (k_en (m x_reader_bytes_) (m x_reader_ 1) (k_pl (m x_reader_bytes_) (m x_reader_ 1) i))) => ?_) (fun (c10 : ¬ (az ≠ (k_en (m x_reader_bytes_) (m x_reader_ 1) (k_pl (m x_reader_bytes_) (m x_reader_ 1) i)))) => ?_)
                  · refine And.intro (show -2147483648 ≤ w + 1 ∧ w + 1 < 2147483648 by omega) ?_
                    refine And.intro (show -2147483648 ≤ (o + q) + 1 ∧ (o + q) + 1 < 2147483648 by omega) ?_
                    show cw_R _ _ 13 [vr x_reader_, vr 13631500, vi (w + 1), vi (k_pl (m x_reader_bytes_) (m x_reader_ 1) i), vi 1, vi ((o + q) + 1)] [] (q_m m co hd fi se te re fa (k_pl (m x_reader_bytes_) (m x_reader_ 1) i) (k_en (m x_reader_bytes_) (m x_reader_ 1) (k_pl (m x_reader_bytes_) (m x_reader_ 1) i)) pa op cl sz) _
                    have hq : q = (x.length : Int) := by
                      rcases cq with cq | cq <;> omega
                    have hk : k_is (m x_reader_bytes_) (k_pl (m x_reader_bytes_) (m x_reader_ 1) i) (k_en (m x_reader_bytes_) (m x_reader_ 1) (k_pl (m x_reader_bytes_) (m x_reader_ 1) i)) x = false := by
                      cases hk : k_is (m x_reader_bytes_) (k_pl (m x_reader_bytes_) (m x_reader_ 1) i) (k_en (m x_reader_bytes_) (m x_reader_ 1) (k_pl (m x_reader_bytes_) (m x_reader_ 1) i)) x with
                      | false => rfl
                      | true => have z := (k_ist.mp hk).1; rcases hI with ⟨h, h2, hI⟩ | ⟨h, hI⟩
                                · omega
                                · rw [hI] at hk; cases hk
                    have z : k_wi (m x_reader_bytes_) (k_pl (m x_reader_bytes_) (m x_reader_ 1) i) (k_en (m x_reader_bytes_) (m x_reader_ 1) (k_pl (m x_reader_bytes_) (m x_reader_ 1) i)) (x :: t) w = k_wi (m x_reader_bytes_) (k_pl (m x_reader_bytes_) (m x_reader_ 1) i) (k_en (m x_reader_bytes_) (m x_reader_ 1) (k_pl (m x_reader_bytes_) (m x_reader_ 1) i)) t (w + 1) := by show (if k_is (m x_reader_bytes_) (k_pl (m x_reader_bytes_) (m x_reader_ 1) i) (k_en (m x_reader_bytes_) (m x_reader_ 1) (k_pl (m x_reader_bytes_) (m x_reader_ 1) i)) x = true then w else _) = _; rw [if_neg (by rw [hk]; decide)]
                    rw [z] at hQ
                    rw [show o + q + 1 = o + (x.length : Int) + 1 by omega]
                    exact ihw _ _ ht.2.2.2 hQ (by omega)
                  · show Q (some (vi w)) (q_m m co hd fi se te re fa (k_pl (m x_reader_bytes_) (m x_reader_ 1) i) (k_en (m x_reader_bytes_) (m x_reader_ 1) (k_pl (m x_reader_bytes_) (m x_reader_ 1) i)) pa op cl sz)
                    have hq : q = (x.length : Int) := by
                      rcases cq with cq | cq <;> omega
                    have hk : k_is (m x_reader_bytes_) (k_pl (m x_reader_bytes_) (m x_reader_ 1) i) (k_en (m x_reader_bytes_) (m x_reader_ 1) (k_pl (m x_reader_bytes_) (m x_reader_ 1) i)) x = true := by
                      rcases hI with ⟨h, h2, hI⟩ | ⟨h, hI⟩
                      · exact k_ist.mpr ⟨by omega, fun q' hq' => (hI q' (by omega)).2⟩
                      · omega
                    have z : k_wi (m x_reader_bytes_) (k_pl (m x_reader_bytes_) (m x_reader_ 1) i) (k_en (m x_reader_bytes_) (m x_reader_ 1) (k_pl (m x_reader_bytes_) (m x_reader_ 1) i)) (x :: t) w = w := by show (if k_is (m x_reader_bytes_) (k_pl (m x_reader_bytes_) (m x_reader_ 1) i) (k_en (m x_reader_bytes_) (m x_reader_ 1) (k_pl (m x_reader_bytes_) (m x_reader_ 1) i)) x = true then w else _) = _; rw [if_pos hk]
                    rw [z] at hQ
                    exact hQ
      have z := lw (x.length + 1) 0 (k_pl (m x_reader_bytes_) (m x_reader_ 1) i) 1 (by omega) (by omega) (Or.inl ⟨rfl, by omega, fun q' hq' => by omega⟩)
      rw [show o + 0 = o by omega] at z
      exact z
  refine la_go_C hm 12 [13] ?_
  show cw_R _ _ 13 [vr x_reader_, vr 13631500, vi 0, vi (k_pl (m x_reader_bytes_) (m x_reader_ 1) i), vi 1, vi 0] [] (q_m m co hd fi se te re fa (k_pl (m x_reader_bytes_) (m x_reader_ 1) i) (k_en (m x_reader_bytes_) (m x_reader_ 1) (k_pl (m x_reader_bytes_) (m x_reader_ 1) i)) pa op cl sz) _
  exact main _ 0 0 hstr h (by decide)
theorem Re_wordIn10 {d : Nat} {m : cw_M} {Q : Option cw_V → cw_M → Prop} (hm0 : la_ok m) (hn : 0 ≤ m x_reader_ 1 ∧ m x_reader_ 1 ≤ 400) (hb : ∀ i, 0 ≤ i → i < m x_reader_ 1 → 0 ≤ m x_reader_bytes_ i ∧ m x_reader_bytes_ i ≤ 255) (hs0 : m 14680076 0 = 26217131) (hs1 : m 14680076 1 = 0) (hstr : k_str (m 26217131) 42 0 [[121, 101, 97, 114], [100, 111, 110, 101], [108, 97, 116, 101, 115, 116], [114, 101, 97, 100, 105, 110, 103, 115], [108, 105, 118, 105, 110, 103], [109, 97, 114, 107], [107, 105, 110, 100]]) {co hd fi se te re : Int → Int} {fa st sp pa op cl sz : Int} {i : Nat} (h : Q (some (vi (k_wi (m x_reader_bytes_) (k_pl (m x_reader_bytes_) (m x_reader_ 1) i) (k_en (m x_reader_bytes_) (m x_reader_ 1) (k_pl (m x_reader_bytes_) (m x_reader_ 1) i)) [[121, 101, 97, 114], [100, 111, 110, 101], [108, 97, 116, 101, 115, 116], [114, 101, 97, 100, 105, 110, 103, 115], [108, 105, 118, 105, 110, 103], [109, 97, 114, 107], [107, 105, 110, 100]] 0))) (q_m m co hd fi se te re fa (k_pl (m x_reader_bytes_) (m x_reader_ 1) i) (k_en (m x_reader_bytes_) (m x_reader_ 1) (k_pl (m x_reader_bytes_) (m x_reader_ 1) i)) pa op cl sz)) : cw_C (d + 4) k_Re_wordIn [vr x_reader_, vr 14680076] (q_m m co hd fi se te re fa (k_pl (m x_reader_bytes_) (m x_reader_ 1) i) (k_en (m x_reader_bytes_) (m x_reader_ 1) (k_pl (m x_reader_bytes_) (m x_reader_ 1) i)) pa op cl sz) Q := by
  have hm : la_ok (q_m m co hd fi se te re fa (k_pl (m x_reader_bytes_) (m x_reader_ 1) i) (k_en (m x_reader_bytes_) (m x_reader_ 1) (k_pl (m x_reader_bytes_) (m x_reader_ 1) i)) pa op cl sz) := q_m_ok hm0
  have pr := k_plr (b := (m x_reader_bytes_)) hn.1 i
  have er := Re_enr (b := (m x_reader_bytes_)) hn.1 i
  have main : ∀ (ws : List (List Int)) (o w : Int), k_str (m 26217131) 42 o ws → Q (some (vi (k_wi (m x_reader_bytes_) (k_pl (m x_reader_bytes_) (m x_reader_ 1) i) (k_en (m x_reader_bytes_) (m x_reader_ 1) (k_pl (m x_reader_bytes_) (m x_reader_ 1) i)) ws w))) (q_m m co hd fi se te re fa (k_pl (m x_reader_bytes_) (m x_reader_ 1) i) (k_en (m x_reader_bytes_) (m x_reader_ 1) (k_pl (m x_reader_bytes_) (m x_reader_ 1) i)) pa op cl sz) → (0 ≤ w ∧ w + ws.length < 1000) → cw_R (d + 4) k_Re_wordIn 13 [vr x_reader_, vr 14680076, vi w, vi (k_pl (m x_reader_bytes_) (m x_reader_ 1) i), vi 1, vi o] [] (q_m m co hd fi se te re fa (k_pl (m x_reader_bytes_) (m x_reader_ 1) i) (k_en (m x_reader_bytes_) (m x_reader_ 1) (k_pl (m x_reader_bytes_) (m x_reader_ 1) i)) pa op cl sz) Q := by
    intro ws
    induction ws with
    | nil =>
      intro o w ht hQ hw
      have ht : o = 42 + 1 := ht
      refine la_go_R hm 9 [] ?_
      show cw_C _ _ [vr 14680076] (q_m m co hd fi se te re fa (k_pl (m x_reader_bytes_) (m x_reader_ 1) i) (k_en (m x_reader_bytes_) (m x_reader_ 1) (k_pl (m x_reader_bytes_) (m x_reader_ 1) i)) pa op cl sz) _
      refine Js_length (L := 42) rfl hs1 (by show cw_ln (m 14680076 0) = _; rw [hs0]; rfl) (by decide) (by show 40 ≤ cw_tg (m 14680076 0); rw [hs0]; decide) ⟨hm, ?_⟩
      refine br_t (show 42 < o by omega) ?_
      show Q (some (vi (-1))) (q_m m co hd fi se te re fa (k_pl (m x_reader_bytes_) (m x_reader_ 1) i) (k_en (m x_reader_bytes_) (m x_reader_ 1) (k_pl (m x_reader_bytes_) (m x_reader_ 1) i)) pa op cl sz)
      exact hQ
    | cons x t ihw =>
      intro o w ht hQ hw
      have hwl : w + (x :: t).length = w + 1 + t.length := by rw [List.length_cons]; omega
      have ht : (∀ q : Nat, q < x.length → m 26217131 (o + q) = x.getD q 0 ∧ x.getD q 0 ≠ 32 ∧ 0 ≤ x.getD q 0 ∧ x.getD q 0 < 128) ∧ (o + (x.length : Int) = 42 ∨ (o + (x.length : Int) < 42 ∧ m 26217131 (o + (x.length : Int)) = 32)) ∧ 0 ≤ o ∧ k_str (m 26217131) 42 (o + (x.length : Int) + 1) t := ht
      have ho := ht.2.2.1
      have hxl := ht.2.1
      have lw : ∀ (r : Nat) (q az same : Int), (x.length : Int) < q + r → (0 ≤ q ∧ q ≤ (x.length : Int)) → ((same = 1 ∧ az = (k_pl (m x_reader_bytes_) (m x_reader_ 1) i) + q ∧ ∀ q' : Nat, (q' : Int) < q → (k_pl (m x_reader_bytes_) (m x_reader_ 1) i) + q' < (k_en (m x_reader_bytes_) (m x_reader_ 1) (k_pl (m x_reader_bytes_) (m x_reader_ 1) i)) ∧ m x_reader_bytes_ ((k_pl (m x_reader_bytes_) (m x_reader_ 1) i) + q') = x.getD q' 0) ∨ (same = 0 ∧ k_is (m x_reader_bytes_) (k_pl (m x_reader_bytes_) (m x_reader_ 1) i) (k_en (m x_reader_bytes_) (m x_reader_ 1) (k_pl (m x_reader_bytes_) (m x_reader_ 1) i)) x = false)) → cw_R (d + 4) k_Re_wordIn 13 [vr x_reader_, vr 14680076, vi w, vi az, vi same, vi (o + q)] [] (q_m m co hd fi se te re fa (k_pl (m x_reader_bytes_) (m x_reader_ 1) i) (k_en (m x_reader_bytes_) (m x_reader_ 1) (k_pl (m x_reader_bytes_) (m x_reader_ 1) i)) pa op cl sz) Q := by
        intro r
        induction r with
        | zero =>
          intro q az same hr hq0 hI
          omega
        | succ r ih =>
          intro q az same hr hq0 hI
          have cq : (q = (x.length : Int) ∧ (o + q = 42 ∨ (o + q < 42 ∧ m 26217131 (o + q) = 32))) ∨ (q < (x.length : Int) ∧ o + q < 42 ∧ m 26217131 (o + q) ≠ 32 ∧ 0 ≤ m 26217131 (o + q) ∧ m 26217131 (o + q) < 128) := by
            by_cases z : q = (x.length : Int)
            · left; rw [z]; exact ⟨rfl, ht.2.1⟩
            · right; have c2 := ht.1 q.toNat (by omega); rw [show o + ((q.toNat : Nat) : Int) = o + q by omega] at c2; have c3 := ht.2.1; omega
          have ba : az < (k_en (m x_reader_bytes_) (m x_reader_ 1) (k_pl (m x_reader_bytes_) (m x_reader_ 1) i)) → (k_pl (m x_reader_bytes_) (m x_reader_ 1) i) ≤ az → 0 ≤ m x_reader_bytes_ az ∧ m x_reader_bytes_ az ≤ 255 := fun a c => hb az (by omega) (by omega)
          have hat : same = 1 → (k_pl (m x_reader_bytes_) (m x_reader_ 1) i) ≤ az := fun h => by rcases hI with ⟨-, h2, -⟩ | ⟨h2, -⟩ <;> omega
          have hsm : same = 0 ∨ same = 1 := by rcases hI with ⟨h2, -, -⟩ | ⟨h2, -⟩ <;> omega
          have hat9 : same = 1 → az = (k_pl (m x_reader_bytes_) (m x_reader_ 1) i) + q := fun h => by rcases hI with ⟨-, h2, -⟩ | ⟨h2, -⟩ <;> omega
          refine la_go_R hm 36 [13] ?_
          show cw_C _ _ [vr 14680076] (q_m m co hd fi se te re fa (k_pl (m x_reader_bytes_) (m x_reader_ 1) i) (k_en (m x_reader_bytes_) (m x_reader_ 1) (k_pl (m x_reader_bytes_) (m x_reader_ 1) i)) pa op cl sz) _
          refine Js_length (L := 42) rfl hs1 (by show cw_ln (m 14680076 0) = _; rw [hs0]; rfl) (by decide) (by show 40 ≤ cw_tg (m 14680076 0); rw [hs0]; decide) ⟨hm, ?_⟩
          refine And.intro (fun (c1 : 42 < o + q) => ?_) (fun (c1 : ¬ (42 < o + q)) => ?_)
          · show Q (some (vi (-1))) (q_m m co hd fi se te re fa (k_pl (m x_reader_bytes_) (m x_reader_ 1) i) (k_en (m x_reader_bytes_) (m x_reader_ 1) (k_pl (m x_reader_bytes_) (m x_reader_ 1) i)) pa op cl sz)
            exfalso
            rcases cq with cq | cq <;> omega
          · show cw_C _ _ [vr 14680076] (q_m m co hd fi se te re fa (k_pl (m x_reader_bytes_) (m x_reader_ 1) i) (k_en (m x_reader_bytes_) (m x_reader_ 1) (k_pl (m x_reader_bytes_) (m x_reader_ 1) i)) pa op cl sz) _
            refine Js_length (L := 42) rfl hs1 (by show cw_ln (m 14680076 0) = _; rw [hs0]; rfl) (by decide) (by show 40 ≤ cw_tg (m 14680076 0); rw [hs0]; decide) ⟨hm, ?_⟩
            refine And.intro (fun (c2 : o + q = 42) => ?_) (fun (c2 : ¬ (o + q = 42)) => ?_)
            · refine And.intro (fun (c3 : same = 0) => ?_) (fun (c3 : ¬ (same = 0)) => ?_)
              · refine And.intro (show -2147483648 ≤ w + 1 ∧ w + 1 < 2147483648 by omega) ?_
                refine And.intro (show -2147483648 ≤ (o + q) + 1 ∧ (o + q) + 1 < 2147483648 by omega) ?_
                show cw_R _ _ 13 [vr x_reader_, vr 14680076, vi (w + 1), vi (k_pl (m x_reader_bytes_) (m x_reader_ 1) i), vi 1, vi ((o + q) + 1)] [] (q_m m co hd fi se te re fa (k_pl (m x_reader_bytes_) (m x_reader_ 1) i) (k_en (m x_reader_bytes_) (m x_reader_ 1) (k_pl (m x_reader_bytes_) (m x_reader_ 1) i)) pa op cl sz) _
                have hq : q = (x.length : Int) := by
                  rcases cq with cq | cq <;> omega
                have hk : k_is (m x_reader_bytes_) (k_pl (m x_reader_bytes_) (m x_reader_ 1) i) (k_en (m x_reader_bytes_) (m x_reader_ 1) (k_pl (m x_reader_bytes_) (m x_reader_ 1) i)) x = false := by
                  cases hk : k_is (m x_reader_bytes_) (k_pl (m x_reader_bytes_) (m x_reader_ 1) i) (k_en (m x_reader_bytes_) (m x_reader_ 1) (k_pl (m x_reader_bytes_) (m x_reader_ 1) i)) x with
                  | false => rfl
                  | true => have z := (k_ist.mp hk).1; rcases hI with ⟨h, h2, hI⟩ | ⟨h, hI⟩
                            · omega
                            · rw [hI] at hk; cases hk
                have z : k_wi (m x_reader_bytes_) (k_pl (m x_reader_bytes_) (m x_reader_ 1) i) (k_en (m x_reader_bytes_) (m x_reader_ 1) (k_pl (m x_reader_bytes_) (m x_reader_ 1) i)) (x :: t) w = k_wi (m x_reader_bytes_) (k_pl (m x_reader_bytes_) (m x_reader_ 1) i) (k_en (m x_reader_bytes_) (m x_reader_ 1) (k_pl (m x_reader_bytes_) (m x_reader_ 1) i)) t (w + 1) := by show (if k_is (m x_reader_bytes_) (k_pl (m x_reader_bytes_) (m x_reader_ 1) i) (k_en (m x_reader_bytes_) (m x_reader_ 1) (k_pl (m x_reader_bytes_) (m x_reader_ 1) i)) x = true then w else _) = _; rw [if_neg (by rw [hk]; decide)]
                rw [z] at hQ
                rw [show o + q + 1 = o + (x.length : Int) + 1 by omega]
                exact ihw _ _ ht.2.2.2 hQ (by omega)
              · refine And.intro (fun (c4 : az ≠ (k_en (m x_reader_bytes_) (m x_reader_ 1) (k_pl (m x_reader_bytes_) (m x_reader_ 1) i))) => ?_) (fun (c4 : ¬ (az ≠ (k_en (m x_reader_bytes_) (m x_reader_ 1) (k_pl (m x_reader_bytes_) (m x_reader_ 1) i)))) => ?_)
                · refine And.intro (show -2147483648 ≤ w + 1 ∧ w + 1 < 2147483648 by omega) ?_
                  refine And.intro (show -2147483648 ≤ (o + q) + 1 ∧ (o + q) + 1 < 2147483648 by omega) ?_
                  show cw_R _ _ 13 [vr x_reader_, vr 14680076, vi (w + 1), vi (k_pl (m x_reader_bytes_) (m x_reader_ 1) i), vi 1, vi ((o + q) + 1)] [] (q_m m co hd fi se te re fa (k_pl (m x_reader_bytes_) (m x_reader_ 1) i) (k_en (m x_reader_bytes_) (m x_reader_ 1) (k_pl (m x_reader_bytes_) (m x_reader_ 1) i)) pa op cl sz) _
                  have hq : q = (x.length : Int) := by
                    rcases cq with cq | cq <;> omega
                  have hk : k_is (m x_reader_bytes_) (k_pl (m x_reader_bytes_) (m x_reader_ 1) i) (k_en (m x_reader_bytes_) (m x_reader_ 1) (k_pl (m x_reader_bytes_) (m x_reader_ 1) i)) x = false := by
                    cases hk : k_is (m x_reader_bytes_) (k_pl (m x_reader_bytes_) (m x_reader_ 1) i) (k_en (m x_reader_bytes_) (m x_reader_ 1) (k_pl (m x_reader_bytes_) (m x_reader_ 1) i)) x with
                    | false => rfl
                    | true => have z := (k_ist.mp hk).1; rcases hI with ⟨h, h2, hI⟩ | ⟨h, hI⟩
                              · omega
                              · rw [hI] at hk; cases hk
                  have z : k_wi (m x_reader_bytes_) (k_pl (m x_reader_bytes_) (m x_reader_ 1) i) (k_en (m x_reader_bytes_) (m x_reader_ 1) (k_pl (m x_reader_bytes_) (m x_reader_ 1) i)) (x :: t) w = k_wi (m x_reader_bytes_) (k_pl (m x_reader_bytes_) (m x_reader_ 1) i) (k_en (m x_reader_bytes_) (m x_reader_ 1) (k_pl (m x_reader_bytes_) (m x_reader_ 1) i)) t (w + 1) := by show (if k_is (m x_reader_bytes_) (k_pl (m x_reader_bytes_) (m x_reader_ 1) i) (k_en (m x_reader_bytes_) (m x_reader_ 1) (k_pl (m x_reader_bytes_) (m x_reader_ 1) i)) x = true then w else _) = _; rw [if_neg (by rw [hk]; decide)]
                  rw [z] at hQ
                  rw [show o + q + 1 = o + (x.length : Int) + 1 by omega]
                  exact ihw _ _ ht.2.2.2 hQ (by omega)
                · show Q (some (vi w)) (q_m m co hd fi se te re fa (k_pl (m x_reader_bytes_) (m x_reader_ 1) i) (k_en (m x_reader_bytes_) (m x_reader_ 1) (k_pl (m x_reader_bytes_) (m x_reader_ 1) i)) pa op cl sz)
                  have hq : q = (x.length : Int) := by
                    rcases cq with cq | cq <;> omega
                  have hk : k_is (m x_reader_bytes_) (k_pl (m x_reader_bytes_) (m x_reader_ 1) i) (k_en (m x_reader_bytes_) (m x_reader_ 1) (k_pl (m x_reader_bytes_) (m x_reader_ 1) i)) x = true := by
                    rcases hI with ⟨h, h2, hI⟩ | ⟨h, hI⟩
                    · exact k_ist.mpr ⟨by omega, fun q' hq' => (hI q' (by omega)).2⟩
                    · omega
                  have z : k_wi (m x_reader_bytes_) (k_pl (m x_reader_bytes_) (m x_reader_ 1) i) (k_en (m x_reader_bytes_) (m x_reader_ 1) (k_pl (m x_reader_bytes_) (m x_reader_ 1) i)) (x :: t) w = w := by show (if k_is (m x_reader_bytes_) (k_pl (m x_reader_bytes_) (m x_reader_ 1) i) (k_en (m x_reader_bytes_) (m x_reader_ 1) (k_pl (m x_reader_bytes_) (m x_reader_ 1) i)) x = true then w else _) = _; rw [if_pos hk]
                  rw [z] at hQ
                  exact hQ
            · show cw_C _ _ [vr 14680076, vi (o + q)] (q_m m co hd fi se te re fa (k_pl (m x_reader_bytes_) (m x_reader_ 1) i) (k_en (m x_reader_bytes_) (m x_reader_ 1) (k_pl (m x_reader_bytes_) (m x_reader_ 1) i)) pa op cl sz) _
              refine Js_charAt (B := 26217131) rfl hs1 hs0 rfl (show 0 ≤ o + q ∧ o + q < 42 by omega) (show 0 ≤ m 26217131 (o + q) ∧ m 26217131 (o + q) < 128 by rcases cq with cq | cq <;> omega) ⟨hm, ?_⟩
              refine And.intro (fun (c5 : m 26217131 (o + q) ≠ 32) => ?_) (fun (c5 : ¬ (m 26217131 (o + q) ≠ 32)) => ?_)
              · refine And.intro (fun (c6 : same = 0) => ?_) (fun (c6 : ¬ (same = 0)) => ?_)
                · refine And.intro (show -2147483648 ≤ (o + q) + 1 ∧ (o + q) + 1 < 2147483648 by omega) ?_
                  show cw_R _ _ 13 [vr x_reader_, vr 14680076, vi w, vi az, vi same, vi ((o + q) + 1)] [] (q_m m co hd fi se te re fa (k_pl (m x_reader_bytes_) (m x_reader_ 1) i) (k_en (m x_reader_bytes_) (m x_reader_ 1) (k_pl (m x_reader_bytes_) (m x_reader_ 1) i)) pa op cl sz) _
                  rw [show o + q + 1 = o + (q + 1) by omega]
                  refine ih (q + 1) _ _ (by omega) (by omega) (Or.inr ⟨by omega, ?_⟩)
                  cases hk : k_is (m x_reader_bytes_) (k_pl (m x_reader_bytes_) (m x_reader_ 1) i) (k_en (m x_reader_bytes_) (m x_reader_ 1) (k_pl (m x_reader_bytes_) (m x_reader_ 1) i)) x with
                  | false => rfl
                  | true =>
                    exfalso
                    rcases hI with ⟨h, h2, hI⟩ | ⟨h, hI⟩
                    · have z := k_ist.mp hk; have z2 := z.2 q.toNat (by rcases cq with cq | cq <;> omega); have c2 := ht.1 q.toNat (by rcases cq with cq | cq <;> omega); rw [show o + ((q.toNat : Nat) : Int) = o + q by omega] at c2; rw [show (k_pl (m x_reader_bytes_) (m x_reader_ 1) i) + ((q.toNat : Nat) : Int) = az by omega] at z2; rcases cq with cq | cq <;> omega
                    · rw [hI] at hk; cases hk
                · refine And.intro (fun (c7 : (k_en (m x_reader_bytes_) (m x_reader_ 1) (k_pl (m x_reader_bytes_) (m x_reader_ 1) i)) ≤ az) => ?_) (fun (c7 : ¬ ((k_en (m x_reader_bytes_) (m x_reader_ 1) (k_pl (m x_reader_bytes_) (m x_reader_ 1) i)) ≤ az)) => ?_)
                  · refine And.intro (show -2147483648 ≤ az + 1 ∧ az + 1 < 2147483648 by omega) ?_
                    refine And.intro (show -2147483648 ≤ (o + q) + 1 ∧ (o + q) + 1 < 2147483648 by omega) ?_
                    show cw_R _ _ 13 [vr x_reader_, vr 14680076, vi w, vi (az + 1), vi 0, vi ((o + q) + 1)] [] (q_m m co hd fi se te re fa (k_pl (m x_reader_bytes_) (m x_reader_ 1) i) (k_en (m x_reader_bytes_) (m x_reader_ 1) (k_pl (m x_reader_bytes_) (m x_reader_ 1) i)) pa op cl sz) _
                    rw [show o + q + 1 = o + (q + 1) by omega]
                    refine ih (q + 1) _ _ (by omega) (by omega) (Or.inr ⟨rfl, ?_⟩)
                    cases hk : k_is (m x_reader_bytes_) (k_pl (m x_reader_bytes_) (m x_reader_ 1) i) (k_en (m x_reader_bytes_) (m x_reader_ 1) (k_pl (m x_reader_bytes_) (m x_reader_ 1) i)) x with
                    | false => rfl
                    | true =>
                      exfalso
                      rcases hI with ⟨h, h2, hI⟩ | ⟨h, hI⟩
                      · have z := k_ist.mp hk; have z2 := z.2 q.toNat (by rcases cq with cq | cq <;> omega); have c2 := ht.1 q.toNat (by rcases cq with cq | cq <;> omega); rw [show o + ((q.toNat : Nat) : Int) = o + q by omega] at c2; rw [show (k_pl (m x_reader_bytes_) (m x_reader_ 1) i) + ((q.toNat : Nat) : Int) = az by omega] at z2; rcases cq with cq | cq <;> omega
                      · rw [hI] at hk; cases hk
                  · refine And.intro (show 0 ≤ az ∧ az < 400 by omega) ?_
                    show cw_C _ _ [vr 14680076, vi (o + q)] (q_m m co hd fi se te re fa (k_pl (m x_reader_bytes_) (m x_reader_ 1) i) (k_en (m x_reader_bytes_) (m x_reader_ 1) (k_pl (m x_reader_bytes_) (m x_reader_ 1) i)) pa op cl sz) _
                    refine Js_charAt (B := 26217131) rfl hs1 hs0 rfl (show 0 ≤ o + q ∧ o + q < 42 by omega) (show 0 ≤ m 26217131 (o + q) ∧ m 26217131 (o + q) < 128 by rcases cq with cq | cq <;> omega) ⟨hm, ?_⟩
                    refine And.intro (fun (c8 : m x_reader_bytes_ az ≠ m 26217131 (o + q)) => ?_) (fun (c8 : ¬ (m x_reader_bytes_ az ≠ m 26217131 (o + q))) => ?_)
                    · refine And.intro (show -2147483648 ≤ az + 1 ∧ az + 1 < 2147483648 by omega) ?_
                      refine And.intro (show -2147483648 ≤ (o + q) + 1 ∧ (o + q) + 1 < 2147483648 by omega) ?_
                      show cw_R _ _ 13 [vr x_reader_, vr 14680076, vi w, vi (az + 1), vi 0, vi ((o + q) + 1)] [] (q_m m co hd fi se te re fa (k_pl (m x_reader_bytes_) (m x_reader_ 1) i) (k_en (m x_reader_bytes_) (m x_reader_ 1) (k_pl (m x_reader_bytes_) (m x_reader_ 1) i)) pa op cl sz) _
                      rw [show o + q + 1 = o + (q + 1) by omega]
                      refine ih (q + 1) _ _ (by omega) (by omega) (Or.inr ⟨rfl, ?_⟩)
                      cases hk : k_is (m x_reader_bytes_) (k_pl (m x_reader_bytes_) (m x_reader_ 1) i) (k_en (m x_reader_bytes_) (m x_reader_ 1) (k_pl (m x_reader_bytes_) (m x_reader_ 1) i)) x with
                      | false => rfl
                      | true =>
                        exfalso
                        rcases hI with ⟨h, h2, hI⟩ | ⟨h, hI⟩
                        · have z := k_ist.mp hk; have z2 := z.2 q.toNat (by rcases cq with cq | cq <;> omega); have c2 := ht.1 q.toNat (by rcases cq with cq | cq <;> omega); rw [show o + ((q.toNat : Nat) : Int) = o + q by omega] at c2; rw [show (k_pl (m x_reader_bytes_) (m x_reader_ 1) i) + ((q.toNat : Nat) : Int) = az by omega] at z2; rcases cq with cq | cq <;> omega
                        · rw [hI] at hk; cases hk
                    · refine And.intro (show -2147483648 ≤ az + 1 ∧ az + 1 < 2147483648 by omega) ?_
                      refine And.intro (show -2147483648 ≤ (o + q) + 1 ∧ (o + q) + 1 < 2147483648 by omega) ?_
                      show cw_R _ _ 13 [vr x_reader_, vr 14680076, vi w, vi (az + 1), vi 1, vi ((o + q) + 1)] [] (q_m m co hd fi se te re fa (k_pl (m x_reader_bytes_) (m x_reader_ 1) i) (k_en (m x_reader_bytes_) (m x_reader_ 1) (k_pl (m x_reader_bytes_) (m x_reader_ 1) i)) pa op cl sz) _
                      rw [show o + q + 1 = o + (q + 1) by omega]
                      refine ih (q + 1) _ _ (by omega) (by omega) ?_
                      rcases hI with ⟨h, h2, hI⟩ | ⟨h, hI⟩
                      · refine Or.inl ⟨rfl, by omega, fun q' hq' => ?_⟩
                        by_cases e2 : (q' : Int) = q
                        · have c2 := ht.1 q.toNat (by rcases cq with cq | cq <;> omega); rw [show o + ((q.toNat : Nat) : Int) = o + q by omega] at c2; rw [show q' = q.toNat by omega, show (k_pl (m x_reader_bytes_) (m x_reader_ 1) i) + ((q.toNat : Nat) : Int) = az by omega]; omega
                        · exact hI q' (by omega)
                      · omega
              · refine And.intro (fun (c9 : same = 0) => ?_) (fun (c9 : ¬ (same = 0)) => ?_)
                · refine And.intro (show -2147483648 ≤ w + 1 ∧ w + 1 < 2147483648 by omega) ?_
                  refine And.intro (show -2147483648 ≤ (o + q) + 1 ∧ (o + q) + 1 < 2147483648 by omega) ?_
                  show cw_R _ _ 13 [vr x_reader_, vr 14680076, vi (w + 1), vi (k_pl (m x_reader_bytes_) (m x_reader_ 1) i), vi 1, vi ((o + q) + 1)] [] (q_m m co hd fi se te re fa (k_pl (m x_reader_bytes_) (m x_reader_ 1) i) (k_en (m x_reader_bytes_) (m x_reader_ 1) (k_pl (m x_reader_bytes_) (m x_reader_ 1) i)) pa op cl sz) _
                  have hq : q = (x.length : Int) := by
                    rcases cq with cq | cq <;> omega
                  have hk : k_is (m x_reader_bytes_) (k_pl (m x_reader_bytes_) (m x_reader_ 1) i) (k_en (m x_reader_bytes_) (m x_reader_ 1) (k_pl (m x_reader_bytes_) (m x_reader_ 1) i)) x = false := by
                    cases hk : k_is (m x_reader_bytes_) (k_pl (m x_reader_bytes_) (m x_reader_ 1) i) (k_en (m x_reader_bytes_) (m x_reader_ 1) (k_pl (m x_reader_bytes_) (m x_reader_ 1) i)) x with
                    | false => rfl
                    | true => have z := (k_ist.mp hk).1; rcases hI with ⟨h, h2, hI⟩ | ⟨h, hI⟩
                              · omega
                              · rw [hI] at hk; cases hk
                  have z : k_wi (m x_reader_bytes_) (k_pl (m x_reader_bytes_) (m x_reader_ 1) i) (k_en (m x_reader_bytes_) (m x_reader_ 1) (k_pl (m x_reader_bytes_) (m x_reader_ 1) i)) (x :: t) w = k_wi (m x_reader_bytes_) (k_pl (m x_reader_bytes_) (m x_reader_ 1) i) (k_en (m x_reader_bytes_) (m x_reader_ 1) (k_pl (m x_reader_bytes_) (m x_reader_ 1) i)) t (w + 1) := by show (if k_is (m x_reader_bytes_) (k_pl (m x_reader_bytes_) (m x_reader_ 1) i) (k_en (m x_reader_bytes_) (m x_reader_ 1) (k_pl (m x_reader_bytes_) (m x_reader_ 1) i)) x = true then w else _) = _; rw [if_neg (by rw [hk]; decide)]
                  rw [z] at hQ
                  rw [show o + q + 1 = o + (x.length : Int) + 1 by omega]
                  exact ihw _ _ ht.2.2.2 hQ (by omega)
                · refine And.intro (fun (c10 : az ≠ (k_en (m x_reader_bytes_) (m x_reader_ 1) (k_pl (m x_reader_bytes_) (m x_reader_ 1) i))) => ?_) (fun (c10 : ¬ (az ≠ (k_en (m x_reader_bytes_) (m x_reader_ 1) (k_pl (m x_reader_bytes_) (m x_reader_ 1) i)))) => ?_)
                  · refine And.intro (show -2147483648 ≤ w + 1 ∧ w + 1 < 2147483648 by omega) ?_
                    refine And.intro (show -2147483648 ≤ (o + q) + 1 ∧ (o + q) + 1 < 2147483648 by omega) ?_
                    show cw_R _ _ 13 [vr x_reader_, vr 14680076, vi (w + 1), vi (k_pl (m x_reader_bytes_) (m x_reader_ 1) i), vi 1, vi ((o + q) + 1)] [] (q_m m co hd fi se te re fa (k_pl (m x_reader_bytes_) (m x_reader_ 1) i) (k_en (m x_reader_bytes_) (m x_reader_ 1) (k_pl (m x_reader_bytes_) (m x_reader_ 1) i)) pa op cl sz) _
                    have hq : q = (x.length : Int) := by
                      rcases cq with cq | cq <;> omega
                    have hk : k_is (m x_reader_bytes_) (k_pl (m x_reader_bytes_) (m x_reader_ 1) i) (k_en (m x_reader_bytes_) (m x_reader_ 1) (k_pl (m x_reader_bytes_) (m x_reader_ 1) i)) x = false := by
                      cases hk : k_is (m x_reader_bytes_) (k_pl (m x_reader_bytes_) (m x_reader_ 1) i) (k_en (m x_reader_bytes_) (m x_reader_ 1) (k_pl (m x_reader_bytes_) (m x_reader_ 1) i)) x with
                      | false => rfl
                      | true => have z := (k_ist.mp hk).1; rcases hI with ⟨h, h2, hI⟩ | ⟨h, hI⟩
                                · omega
                                · rw [hI] at hk; cases hk
                    have z : k_wi (m x_reader_bytes_) (k_pl (m x_reader_bytes_) (m x_reader_ 1) i) (k_en (m x_reader_bytes_) (m x_reader_ 1) (k_pl (m x_reader_bytes_) (m x_reader_ 1) i)) (x :: t) w = k_wi (m x_reader_bytes_) (k_pl (m x_reader_bytes_) (m x_reader_ 1) i) (k_en (m x_reader_bytes_) (m x_reader_ 1) (k_pl (m x_reader_bytes_) (m x_reader_ 1) i)) t (w + 1) := by show (if k_is (m x_reader_bytes_) (k_pl (m x_reader_bytes_) (m x_reader_ 1) i) (k_en (m x_reader_bytes_) (m x_reader_ 1) (k_pl (m x_reader_bytes_) (m x_reader_ 1) i)) x = true then w else _) = _; rw [if_neg (by rw [hk]; decide)]
                    rw [z] at hQ
                    rw [show o + q + 1 = o + (x.length : Int) + 1 by omega]
                    exact ihw _ _ ht.2.2.2 hQ (by omega)
                  · show Q (some (vi w)) (q_m m co hd fi se te re fa (k_pl (m x_reader_bytes_) (m x_reader_ 1) i) (k_en (m x_reader_bytes_) (m x_reader_ 1) (k_pl (m x_reader_bytes_) (m x_reader_ 1) i)) pa op cl sz)
                    have hq : q = (x.length : Int) := by
                      rcases cq with cq | cq <;> omega
                    have hk : k_is (m x_reader_bytes_) (k_pl (m x_reader_bytes_) (m x_reader_ 1) i) (k_en (m x_reader_bytes_) (m x_reader_ 1) (k_pl (m x_reader_bytes_) (m x_reader_ 1) i)) x = true := by
                      rcases hI with ⟨h, h2, hI⟩ | ⟨h, hI⟩
                      · exact k_ist.mpr ⟨by omega, fun q' hq' => (hI q' (by omega)).2⟩
                      · omega
                    have z : k_wi (m x_reader_bytes_) (k_pl (m x_reader_bytes_) (m x_reader_ 1) i) (k_en (m x_reader_bytes_) (m x_reader_ 1) (k_pl (m x_reader_bytes_) (m x_reader_ 1) i)) (x :: t) w = w := by show (if k_is (m x_reader_bytes_) (k_pl (m x_reader_bytes_) (m x_reader_ 1) i) (k_en (m x_reader_bytes_) (m x_reader_ 1) (k_pl (m x_reader_bytes_) (m x_reader_ 1) i)) x = true then w else _) = _; rw [if_pos hk]
                    rw [z] at hQ
                    exact hQ
      have z := lw (x.length + 1) 0 (k_pl (m x_reader_bytes_) (m x_reader_ 1) i) 1 (by omega) (by omega) (Or.inl ⟨rfl, by omega, fun q' hq' => by omega⟩)
      rw [show o + 0 = o by omega] at z
      exact z
  refine la_go_C hm 12 [13] ?_
  show cw_R _ _ 13 [vr x_reader_, vr 14680076, vi 0, vi (k_pl (m x_reader_bytes_) (m x_reader_ 1) i), vi 1, vi 0] [] (q_m m co hd fi se te re fa (k_pl (m x_reader_bytes_) (m x_reader_ 1) i) (k_en (m x_reader_bytes_) (m x_reader_ 1) (k_pl (m x_reader_bytes_) (m x_reader_ 1) i)) pa op cl sz) _
  exact main _ 0 0 hstr h (by decide)
