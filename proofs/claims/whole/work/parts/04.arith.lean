/-! Numbers of the abstract machine and of the JVM. -/
def cw_r (x : Int) : Prop := -2147483648 ≤ x ∧ x < 2147483648
def cw_rl (x : Int) : Prop := -9223372036854775808 ≤ x ∧ x < 9223372036854775808
theorem cw_w_r (x : Int) : cw_r (cw_w x) := by unfold cw_r cw_w; omega
theorem cw_wl_r (x : Int) : cw_rl (cw_wl x) := by unfold cw_rl cw_wl; omega
theorem cw_w_id {x : Int} (h : cw_r x) : cw_w x = x := by unfold cw_r at h; unfold cw_w; omega
theorem cw_wl_id {x : Int} (h : cw_rl x) : cw_wl x = x := by unfold cw_rl at h; unfold cw_wl; omega
theorem cw_ti {x : Int} (h : cw_r x) : (Int32.ofInt x).toInt = x := Int32.toInt_ofInt_of_le (by have := h.1; simpa using this) (by have := h.2; simpa using this)
theorem cw_tl {x : Int} (h : cw_rl x) : (Int64.ofInt x).toInt = x := Int64.toInt_ofInt_of_le (by have := h.1; simpa using this) (by have := h.2; simpa using this)
theorem cw_ri32 (x : Int32) : cw_r x.toInt := ⟨by have := x.le_toInt; simpa using this, by have := x.toInt_lt; simpa using this⟩
theorem cw_ri64 (x : Int64) : cw_rl x.toInt := ⟨by have := x.le_toInt; simpa using this, by have := x.toInt_lt; simpa using this⟩
theorem cw_bm (x : Int) : Int.bmod x 4294967296 = cw_w x := by
  rw [Int.bmod_def]; unfold cw_w; split <;> omega
theorem cw_bml (x : Int) : Int.bmod x 18446744073709551616 = cw_wl x := by
  rw [Int.bmod_def]; unfold cw_wl; split <;> omega
theorem cw_oi (x : Int) : (Int32.ofInt x).toInt = cw_w x := by rw [Int32.toInt_ofInt, ← cw_bm]
theorem cw_ol (x : Int) : (Int64.ofInt x).toInt = cw_wl x := by rw [Int64.toInt_ofInt, ← cw_bml]
theorem cw_ofw (x : Int) : Int32.ofInt (cw_w x) = Int32.ofInt x := Int32.toInt.inj (by rw [cw_oi, cw_oi, cw_w_id (cw_w_r x)])
theorem cw_ofwl (x : Int) : Int64.ofInt (cw_wl x) = Int64.ofInt x := Int64.toInt.inj (by rw [cw_ol, cw_ol, cw_wl_id (cw_wl_r x)])
theorem cw_add (x y : Int) : Int32.ofInt x + Int32.ofInt y = Int32.ofInt (cw_w (x + y)) := by rw [cw_ofw, Int32.ofInt_add]
theorem cw_sub (x y : Int) : Int32.ofInt x - Int32.ofInt y = Int32.ofInt (cw_w (x - y)) := by rw [cw_ofw, Int32.ofInt_sub]
theorem cw_mul (x y : Int) : Int32.ofInt x * Int32.ofInt y = Int32.ofInt (cw_w (x * y)) := by rw [cw_ofw, Int32.ofInt_mul]
theorem cw_neg (x : Int) : -Int32.ofInt x = Int32.ofInt (cw_w (-x)) := by rw [cw_ofw, Int32.ofInt_neg]
theorem cw_addl (x y : Int) : Int64.ofInt x + Int64.ofInt y = Int64.ofInt (cw_wl (x + y)) := by rw [cw_ofwl, Int64.ofInt_add]
theorem cw_subl (x y : Int) : Int64.ofInt x - Int64.ofInt y = Int64.ofInt (cw_wl (x - y)) := by rw [cw_ofwl, Int64.ofInt_sub]
theorem cw_mull (x y : Int) : Int64.ofInt x * Int64.ofInt y = Int64.ofInt (cw_wl (x * y)) := by rw [cw_ofwl, Int64.ofInt_mul]
theorem cw_div {x y : Int} (hx : cw_r x) (hy : cw_r y) : Int32.ofInt x / Int32.ofInt y = Int32.ofInt (cw_w (x.tdiv y)) := by
  apply Int32.toInt.inj
  rw [Int32.toInt_div, cw_ti hx, cw_ti hy, cw_oi, cw_w_id (cw_w_r _), ← cw_bm]
theorem cw_divl {x y : Int} (hx : cw_rl x) (hy : cw_rl y) : Int64.ofInt x / Int64.ofInt y = Int64.ofInt (cw_wl (x.tdiv y)) := by
  apply Int64.toInt.inj
  rw [Int64.toInt_div, cw_tl hx, cw_tl hy, cw_ol, cw_wl_id (cw_wl_r _), ← cw_bml]
theorem cw_rem {x y : Int} (hx : cw_r x) (hy : cw_r y) : Int32.ofInt x - Int32.ofInt x / Int32.ofInt y * Int32.ofInt y = Int32.ofInt (x.tmod y) := by
  rw [cw_div hx hy, cw_ofw, ← Int32.ofInt_mul, ← Int32.ofInt_sub]
  congr 1
  have := Int.tmod_add_tdiv_mul x y
  omega
theorem cw_reml {x y : Int} (hx : cw_rl x) (hy : cw_rl y) : Int64.ofInt x - Int64.ofInt x / Int64.ofInt y * Int64.ofInt y = Int64.ofInt (x.tmod y) := by
  rw [cw_divl hx hy, cw_ofwl, ← Int64.ofInt_mul, ← Int64.ofInt_sub]
  congr 1
  have := Int.tmod_add_tdiv_mul x y
  omega
theorem cw_rem_r {x y : Int} (hx : cw_r x) : cw_r (x.tmod y) := by
  have h1 : (x.tmod y).natAbs ≤ x.natAbs := by rw [Int.natAbs_tmod]; exact Nat.mod_le _ _
  have h2 : 0 ≤ x → 0 ≤ x.tmod y := fun h => Int.tmod_nonneg y h
  unfold cw_r at *
  by_cases h : 0 ≤ x
  · have := h2 h; omega
  · have h4 : 0 ≤ (-x).tmod y := Int.tmod_nonneg y (by omega)
    rw [Int.neg_tmod] at h4
    omega
theorem cw_rem_rl {x y : Int} (hx : cw_rl x) : cw_rl (x.tmod y) := by
  have h1 : (x.tmod y).natAbs ≤ x.natAbs := by rw [Int.natAbs_tmod]; exact Nat.mod_le _ _
  have h2 : 0 ≤ x → 0 ≤ x.tmod y := fun h => Int.tmod_nonneg y h
  unfold cw_rl at *
  by_cases h : 0 ≤ x
  · have := h2 h; omega
  · have h4 : 0 ≤ (-x).tmod y := Int.tmod_nonneg y (by omega)
    rw [Int.neg_tmod] at h4
    omega
theorem cw_lt {x y : Int} (hx : cw_r x) (hy : cw_r y) : Int32.ofInt x < Int32.ofInt y ↔ x < y := by rw [Int32.lt_iff_toInt_lt, cw_ti hx, cw_ti hy]
theorem cw_le {x y : Int} (hx : cw_r x) (hy : cw_r y) : Int32.ofInt x ≤ Int32.ofInt y ↔ x ≤ y := by rw [Int32.le_iff_toInt_le, cw_ti hx, cw_ti hy]
theorem cw_eq {x y : Int} (hx : cw_r x) (hy : cw_r y) : Int32.ofInt x = Int32.ofInt y ↔ x = y := ⟨fun h => by rw [← cw_ti hx, ← cw_ti hy, h], fun h => by rw [h]⟩
theorem cw_eql {x y : Int} (hx : cw_rl x) (hy : cw_rl y) : Int64.ofInt x = Int64.ofInt y ↔ x = y := ⟨fun h => by rw [← cw_tl hx, ← cw_tl hy, h], fun h => by rw [h]⟩
theorem cw_ltl {x y : Int} (hx : cw_rl x) (hy : cw_rl y) : Int64.ofInt x < Int64.ofInt y ↔ x < y := by rw [Int64.lt_iff_toInt_lt, cw_tl hx, cw_tl hy]
theorem cw_ofti (x : Int32) : Int32.ofInt x.toInt = x := Int32.ofInt_toInt x
theorem cw_oftl (x : Int64) : Int64.ofInt x.toInt = x := Int64.ofInt_toInt x
theorem cw_z : Int32.ofInt 0 = 0 := rfl
theorem cw_rz : cw_r 0 := ⟨by decide, by decide⟩
theorem cw_i2l {x : Int} (h : cw_r x) : (Int32.ofInt x).toInt64 = Int64.ofInt x := by
  apply Int64.toInt.inj
  have : cw_rl x := by unfold cw_r at h; unfold cw_rl; omega
  rw [Int32.toInt_toInt64, cw_ti h, cw_tl this]
theorem cw_l2i (x : Int) : (Int64.ofInt x).toInt32 = Int32.ofInt (cw_w x) := by
  apply Int32.toInt.inj
  rw [Int64.toInt_toInt32, cw_ol, cw_oi, cw_w_id (cw_w_r _)]
  show Int.bmod (cw_wl x) 4294967296 = _
  rw [cw_bm]; unfold cw_w cw_wl; omega
theorem cw_i2b_ok (x : Int) : (Int32.ofInt x).toInt8.toInt32 = Int32.ofInt (cw_i2b x) := by
  apply Int32.toInt.inj
  rw [Int8.toInt_toInt32, Int32.toInt_toInt8, cw_oi, cw_oi]
  show Int.bmod (cw_w x) 256 = _
  rw [Int.bmod_def]; unfold cw_w cw_i2b; split <;> omega
theorem cw_clp {i : Int} (h0 : 0 ≤ i) (h : i < 2147483648) : (Int32.ofInt i).toNatClampNeg = i.toNat := by
  have h1 := cw_ti (x := i) ⟨by omega, h⟩
  have h2 : ((Int32.ofInt i).toNatClampNeg : Int) = i := by rw [← h1]; simp [Int32.toNatClampNeg, h1]; omega
  omega
theorem cw_nn {i : Int} (h0 : 0 ≤ i) (h : i < 2147483648) : ¬ Int32.ofInt i < 0 := by
  rw [← cw_z, cw_lt ⟨by omega, h⟩ cw_rz]; omega
theorem cw_inb {i : Int} {n : Nat} (h0 : 0 ≤ i) (h : i < n) (hn : n < 2147483648) : ¬ (Int32.ofInt i < 0 ∨ n ≤ (Int32.ofInt i).toNatClampNeg) := by
  rintro (q | q)
  · exact cw_nn h0 (by omega) q
  · rw [cw_clp h0 (by omega)] at q; omega
theorem cw_lgc {x y : Int} (hx : cw_rl x) (hy : cw_rl y) : lg_cmp (Int64.ofInt x) (Int64.ofInt y) = Int32.ofInt (cw_lc x y) := by
  unfold lg_cmp cw_lc
  by_cases h1 : x < y
  · rw [if_neg (fun q => by have := (cw_ltl hy hx).mp q; omega), if_neg (fun q => by have := (cw_eql hx hy).mp q; omega), if_pos h1]; rfl
  · by_cases h2 : x = y
    · rw [if_neg (fun q => by have := (cw_ltl hy hx).mp q; omega), if_pos ((cw_eql hx hy).mpr h2), if_neg h1, if_pos h2]; rfl
    · rw [if_pos ((cw_ltl hy hx).mpr (by omega)), if_neg h1, if_neg h2]; rfl
theorem cw_i2c_ok (x : Int) : ((Int32.ofInt x).toUInt32 % 65536).toInt32 = Int32.ofInt (cw_i2c x) := by
  rw [pk_char]
  unfold cw_i2c nI
  rw [show (Int32.ofInt x).toBitVec.toNat = (x % 4294967296).toNat from by
    show (BitVec.ofInt 32 x).toNat = _
    rw [BitVec.toNat_ofInt]; rfl]
  apply Int32.toInt.inj
  rw [cw_oi]
  have : (Int32.ofNat ((x % 4294967296).toNat % 65536)) = Int32.ofInt (((x % 4294967296).toNat % 65536 : Nat) : Int) := rfl
  rw [this, cw_oi]
  congr 1
  omega
