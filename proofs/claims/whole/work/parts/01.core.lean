/-! An abstract machine for the instructions that this claim reaches: ints, longs and references are Int, the heap is one function of a cell's code and a place. A cell's code holds its number, its length and its tag. -/
abbrev cw_V : Type := Option (Int ⊕ (Int ⊕ Int))
abbrev vi (x : Int) : cw_V := some (Sum.inl x)
abbrev vl (x : Int) : cw_V := some (Sum.inr (Sum.inl x))
abbrev vr (x : Int) : cw_V := some (Sum.inr (Sum.inr x))
abbrev cw_M : Type := Int → Int → Int
/-- 32 and 64 bits, signed -/
def cw_w (x : Int) : Int := (x + 2147483648) % 4294967296 - 2147483648
def cw_wl (x : Int) : Int := (x + 9223372036854775808) % 18446744073709551616 - 9223372036854775808
def cw_tg (c : Int) : Int := c % 64
def cw_ln (c : Int) : Int := c / 64 % 16384
def cw_ce (c : Int) : Int := c / 1048576
def cw_put (m : cw_M) (a i v : Int) : cw_M := fun b j => if b = a ∧ j = i then v else m b j
def cw_nc (m : cw_M) (t n : Int) : Int := (m (-1) 0 * 16384 + n) * 64 + t
def cw_new (m : cw_M) (t n : Int) : cw_M := fun b j =>
  if b = cw_nc m t n then 0
  else if b = -1 then (if j = 0 then m (-1) 0 + 1 else if j = 1 then m (-1) 1 + n else m b j)
  else if b = -2 ∧ j = m (-1) 0 then cw_nc m t n else m b j
def cw_cpy (m : cw_M) (s sp d dp n : Int) : cw_M := fun b j => if b = d ∧ dp ≤ j ∧ j < dp + n then m s (sp + (j - dp)) else m b j
/-- the bits of ints and longs -/
def cw_iand (x y : Int) : Int := (Int32.ofInt x &&& Int32.ofInt y).toInt
def cw_ior (x y : Int) : Int := (Int32.ofInt x ||| Int32.ofInt y).toInt
def cw_ixor (x y : Int) : Int := (Int32.ofInt x ^^^ Int32.ofInt y).toInt
def cw_ishl (x y : Int) : Int := (Int32.ofInt x <<< (Int32.ofInt y &&& 31)).toInt
def cw_ishr (x y : Int) : Int := (Int32.ofInt x >>> (Int32.ofInt y &&& 31)).toInt
def cw_iushr (x y : Int) : Int := ((Int32.ofInt x).toUInt32 >>> ((Int32.ofInt y).toUInt32 &&& Int32.toUInt32 31)).toInt32.toInt
def cw_land (x y : Int) : Int := (Int64.ofInt x &&& Int64.ofInt y).toInt
def cw_lor (x y : Int) : Int := (Int64.ofInt x ||| Int64.ofInt y).toInt
def cw_lxor (x y : Int) : Int := (Int64.ofInt x ^^^ Int64.ofInt y).toInt
def cw_lshl (x y : Int) : Int := (Int64.ofInt x <<< ((Int32.ofInt y).toInt64 &&& 63)).toInt
def cw_lshr (x y : Int) : Int := (Int64.ofInt x >>> ((Int32.ofInt y).toInt64 &&& 63)).toInt
def cw_i2b (x : Int) : Int := (x + 128) % 256 - 128
def cw_i2c (x : Int) : Int := x % 65536
def cw_lc (x y : Int) : Int := if x < y then -1 else if x = y then 0 else 1
/-- an instruction: its place, its length, itself, and what its links come to (a kind or a target or a method; how many are popped; a tag or a constant; a field's place) -/
abbrev cw_A : Type := Nat × Nat × ClassFile.Instr × Nat × Nat × Int × Int
/-- what a step does: goes on; asks and goes on; parts; calls; asks and calls; returns; asks and returns -/
abbrev cw_O : Type := (Nat × List cw_V × List cw_V × cw_M) ⊕ (Prop × Nat × List cw_V × List cw_V × cw_M) ⊕ (Prop × Nat × Nat × List cw_V) ⊕ (Nat × List cw_V × Nat × List cw_V) ⊕ (Prop × Nat × List cw_V × Nat × List cw_V) ⊕ (Option cw_V) ⊕ (Prop × Option cw_V)
abbrev cw_go (pc : Nat) (ls st : List cw_V) (m : cw_M) : Option cw_O := some (.inl (pc, ls, st, m))
abbrev cw_ck (P : Prop) (pc : Nat) (ls st : List cw_V) (m : cw_M) : Option cw_O := some (.inr (.inl (P, pc, ls, st, m)))
abbrev cw_br (P : Prop) (t f : Nat) (st : List cw_V) : Option cw_O := some (.inr (.inr (.inl (P, t, f, st))))
abbrev cw_cl (y : Nat) (as : List cw_V) (pc : Nat) (st : List cw_V) : Option cw_O := some (.inr (.inr (.inr (.inl (y, as, pc, st)))))
abbrev cw_cc (P : Prop) (y : Nat) (as : List cw_V) (pc : Nat) (st : List cw_V) : Option cw_O := some (.inr (.inr (.inr (.inr (.inl (P, y, as, pc, st))))))
abbrev cw_rt (r : Option cw_V) : Option cw_O := some (.inr (.inr (.inr (.inr (.inr (.inl r))))))
abbrev cw_rc (P : Prop) (r : Option cw_V) : Option cw_O := some (.inr (.inr (.inr (.inr (.inr (.inr (P, r)))))))
def cw_p1 (st : List cw_V) (f : Int → List cw_V → Option cw_O) : Option cw_O := match st with
  | some (.inl x) :: s => f x s
  | _ => none
def cw_p2 (st : List cw_V) (f : Int → Int → List cw_V → Option cw_O) : Option cw_O := match st with
  | some (.inl y) :: some (.inl x) :: s => f x y s
  | _ => none
def cw_l1 (st : List cw_V) (f : Int → List cw_V → Option cw_O) : Option cw_O := match st with
  | some (.inr (.inl x)) :: s => f x s
  | _ => none
def cw_l2 (st : List cw_V) (f : Int → Int → List cw_V → Option cw_O) : Option cw_O := match st with
  | some (.inr (.inl y)) :: some (.inr (.inl x)) :: s => f x y s
  | _ => none
def cw_li (st : List cw_V) (f : Int → Int → List cw_V → Option cw_O) : Option cw_O := match st with
  | some (.inl y) :: some (.inr (.inl x)) :: s => f x y s
  | _ => none
def cw_r1 (st : List cw_V) (f : Int → List cw_V → Option cw_O) : Option cw_O := match st with
  | some (.inr (.inr c)) :: s => f c s
  | _ => none
def cw_ri (st : List cw_V) (f : Int → Int → List cw_V → Option cw_O) : Option cw_O := match st with
  | some (.inl i) :: some (.inr (.inr c)) :: s => f c i s
  | _ => none
def cw_rii (st : List cw_V) (f : Int → Int → Int → List cw_V → Option cw_O) : Option cw_O := match st with
  | some (.inl v) :: some (.inl i) :: some (.inr (.inr c)) :: s => f c i v s
  | _ => none
def cw_ril (st : List cw_V) (f : Int → Int → Int → List cw_V → Option cw_O) : Option cw_O := match st with
  | some (.inr (.inl v)) :: some (.inl i) :: some (.inr (.inr c)) :: s => f c i v s
  | _ => none
def cw_rir (st : List cw_V) (f : Int → Int → Int → List cw_V → Option cw_O) : Option cw_O := match st with
  | some (.inr (.inr v)) :: some (.inl i) :: some (.inr (.inr c)) :: s => f c i v s
  | _ => none
/-- locals -/
def cw_lg : List cw_V → Nat → cw_V
  | [], _ => none
  | v :: _, 0 => v
  | _ :: t, n + 1 => cw_lg t n
def cw_dl (v : cw_V) (k : cw_V → Option cw_O) : Option cw_O := match v with
  | some (.inr (.inl _)) => k none
  | none => k none
  | some (.inl x) => k (vi x)
  | some (.inr (.inr x)) => k (vr x)
def cw_st : List cw_V → Nat → cw_V → (List cw_V → Option cw_O) → Option cw_O
  | [], _, _, _ => none
  | _ :: t, 0, v, k => k (v :: t)
  | a :: t, 1, v, k => cw_dl a fun a' => cw_st t 0 v fun t' => k (a' :: t')
  | a :: t, n + 2, v, k => cw_st t (n + 1) v fun t' => k (a :: t')
def cw_gi (ls : List cw_V) (n : Nat) (k : Int → Option cw_O) : Option cw_O := match cw_lg ls n with
  | some (.inl x) => k x
  | _ => none
def cw_gl (ls : List cw_V) (n : Nat) (k : Int → Option cw_O) : Option cw_O := match cw_lg ls n with
  | some (.inr (.inl x)) => k x
  | _ => none
def cw_gr (ls : List cw_V) (n : Nat) (k : Int → Option cw_O) : Option cw_O := match cw_lg ls n with
  | some (.inr (.inr x)) => k x
  | _ => none
def cw_c1 (v : cw_V) : Bool := match v with
  | some (.inl _) => true
  | some (.inr (.inr _)) => true
  | _ => false
def cw_ct (v : cw_V) : Nat := match v with
  | some (.inr (.inl _)) => 2
  | _ => 1
def cw_cs : List cw_V → Nat
  | [] => 0
  | v :: t => cw_ct v + cw_cs t
/-- pops so many, the first argument first -/
def cw_pn : Nat → List cw_V → List cw_V → (List cw_V → List cw_V → Option cw_O) → Option cw_O
  | 0, st, as, k => k as st
  | n + 1, v :: st, as, k => cw_pn n st (v :: as) k
  | _ + 1, [], _, _ => none
/-- a kind's value of a number -/
def cw_kv (k : Nat) (x : Int) : cw_V := match k with
  | 0 => vi x
  | 1 => vl x
  | 2 => vr x
  | _ => none
/-- a method's first locals -/
def cw_en : List cw_V → Nat → List cw_V
  | [], n => List.replicate n none
  | some (.inr (.inl x)) :: t, n => vl x :: none :: cw_en t (n - 2)
  | v :: t, n => v :: cw_en t (n - 1)
def cw_LC : Int := 600032
def cw_LS : Int := 7302250
def cw_own (c : Int) : Prop := 33554432 ≤ c
/-- where a switch goes -/
def cw_ts (pc : Nat) (d lo hi : Int) (os : Array Int) (x : Int) : Nat := if x < lo then ((pc : Int) + d).toNat else if hi < x then ((pc : Int) + d).toNat else ((pc : Int) + os.getD (x - lo).toNat 0).toNat
def cw_lk (pc : Nat) (d : Int) : List (Int × Int) → Int → Nat
  | [], _ => ((pc : Int) + d).toNat
  | q :: t, x => if x = q.1 then ((pc : Int) + q.2).toNat else cw_lk pc d t x
/-- a number that fits a small kind: 0 any, 1 boolean, 2 char, 3 byte, 4 short -/
def cw_ok (k : Nat) (x : Int) : Prop := match k with
  | 0 => True
  | 1 => x = 0 ∨ x = 1
  | 2 => 0 ≤ x ∧ x < 65536
  | 3 => -128 ≤ x ∧ x < 128
  | _ => -32768 ≤ x ∧ x < 32768
/-- one step -/
def cw_stp (q : cw_A) (ls st : List cw_V) (m : cw_M) : Option cw_O := match q with
  | (pc, len, i, a, b, x, y) => match i with
    | .aconst_null => cw_go (pc + len) ls (vr 0 :: st) m
    | .iconst _ => cw_go (pc + len) ls (vi x :: st) m
    | .bipush _ => cw_go (pc + len) ls (vi x :: st) m
    | .sipush _ => cw_go (pc + len) ls (vi x :: st) m
    | .lconst _ => cw_go (pc + len) ls (vl x :: st) m
    | .ldc _ => cw_go (pc + len) ls (cw_kv a x :: st) m
    | .ldc_w _ => cw_go (pc + len) ls (cw_kv a x :: st) m
    | .ldc2_w _ => cw_go (pc + len) ls (vl x :: st) m
    | .getstatic _ => cw_go (pc + len) ls (cw_kv a x :: st) m
    | .iload _ => cw_gi ls a fun v => cw_go (pc + len) ls (vi v :: st) m
    | .iload_n _ => cw_gi ls a fun v => cw_go (pc + len) ls (vi v :: st) m
    | .lload _ => cw_gl ls a fun v => cw_go (pc + len) ls (vl v :: st) m
    | .lload_n _ => cw_gl ls a fun v => cw_go (pc + len) ls (vl v :: st) m
    | .aload _ => cw_gr ls a fun v => cw_go (pc + len) ls (vr v :: st) m
    | .aload_n _ => cw_gr ls a fun v => cw_go (pc + len) ls (vr v :: st) m
    | .istore _ => cw_p1 st fun v s => cw_st ls a (vi v) fun ls' => cw_go (pc + len) ls' s m
    | .istore_n _ => cw_p1 st fun v s => cw_st ls a (vi v) fun ls' => cw_go (pc + len) ls' s m
    | .lstore _ => cw_l1 st fun v s => cw_st ls a (vl v) fun l1 => cw_st l1 (a + 1) none fun l2 => cw_st l2 a (vl v) fun l3 => cw_go (pc + len) l3 s m
    | .lstore_n _ => cw_l1 st fun v s => cw_st ls a (vl v) fun l1 => cw_st l1 (a + 1) none fun l2 => cw_st l2 a (vl v) fun l3 => cw_go (pc + len) l3 s m
    | .astore _ => cw_r1 st fun v s => cw_st ls a (vr v) fun ls' => cw_go (pc + len) ls' s m
    | .astore_n _ => cw_r1 st fun v s => cw_st ls a (vr v) fun ls' => cw_go (pc + len) ls' s m
    | .iinc _ _ => cw_gi ls a fun v => cw_st ls a (vi (cw_w (v + x))) fun ls' => cw_go (pc + len) ls' st m
    | .iadd => cw_p2 st fun u v s => cw_go (pc + len) ls (vi (cw_w (u + v)) :: s) m
    | .isub => cw_p2 st fun u v s => cw_go (pc + len) ls (vi (cw_w (u - v)) :: s) m
    | .imul => cw_p2 st fun u v s => cw_go (pc + len) ls (vi (cw_w (u * v)) :: s) m
    | .idiv => cw_p2 st fun u v s => cw_ck (v ≠ 0) (pc + len) ls (vi (cw_w (u.tdiv v)) :: s) m
    | .irem => cw_p2 st fun u v s => cw_ck (v ≠ 0) (pc + len) ls (vi (u.tmod v) :: s) m
    | .ineg => cw_p1 st fun u s => cw_go (pc + len) ls (vi (cw_w (-u)) :: s) m
    | .iand => cw_p2 st fun u v s => cw_go (pc + len) ls (vi (cw_iand u v) :: s) m
    | .ior => cw_p2 st fun u v s => cw_go (pc + len) ls (vi (cw_ior u v) :: s) m
    | .ixor => cw_p2 st fun u v s => cw_go (pc + len) ls (vi (cw_ixor u v) :: s) m
    | .ishl => cw_p2 st fun u v s => cw_go (pc + len) ls (vi (cw_ishl u v) :: s) m
    | .ishr => cw_p2 st fun u v s => cw_go (pc + len) ls (vi (cw_ishr u v) :: s) m
    | .iushr => cw_p2 st fun u v s => cw_go (pc + len) ls (vi (cw_iushr u v) :: s) m
    | .ladd => cw_l2 st fun u v s => cw_go (pc + len) ls (vl (cw_wl (u + v)) :: s) m
    | .lsub => cw_l2 st fun u v s => cw_go (pc + len) ls (vl (cw_wl (u - v)) :: s) m
    | .lmul => cw_l2 st fun u v s => cw_go (pc + len) ls (vl (cw_wl (u * v)) :: s) m
    | .ldiv => cw_l2 st fun u v s => cw_ck (v ≠ 0) (pc + len) ls (vl (cw_wl (u.tdiv v)) :: s) m
    | .lrem => cw_l2 st fun u v s => cw_ck (v ≠ 0) (pc + len) ls (vl (u.tmod v) :: s) m
    | .land => cw_l2 st fun u v s => cw_go (pc + len) ls (vl (cw_land u v) :: s) m
    | .lor => cw_l2 st fun u v s => cw_go (pc + len) ls (vl (cw_lor u v) :: s) m
    | .lxor => cw_l2 st fun u v s => cw_go (pc + len) ls (vl (cw_lxor u v) :: s) m
    | .lshl => cw_li st fun u v s => cw_go (pc + len) ls (vl (cw_lshl u v) :: s) m
    | .lshr => cw_li st fun u v s => cw_go (pc + len) ls (vl (cw_lshr u v) :: s) m
    | .lcmp => cw_l2 st fun u v s => cw_go (pc + len) ls (vi (cw_lc u v) :: s) m
    | .i2l => cw_p1 st fun u s => cw_go (pc + len) ls (vl u :: s) m
    | .l2i => cw_l1 st fun u s => cw_go (pc + len) ls (vi (cw_w u) :: s) m
    | .i2b => cw_p1 st fun u s => cw_go (pc + len) ls (vi (cw_i2b u) :: s) m
    | .i2c => cw_p1 st fun u s => cw_go (pc + len) ls (vi (cw_i2c u) :: s) m
    | .pop => match st with
      | v :: s => bif cw_c1 v then cw_go (pc + len) ls s m else none
      | _ => none
    | .dup => match st with
      | v :: s => bif cw_c1 v then cw_go (pc + len) ls (v :: v :: s) m else none
      | _ => none
    | .dup2 => match st with
      | some (.inr (.inl z)) :: s => cw_go (pc + len) ls (vl z :: vl z :: s) m
      | v :: w :: s => bif cw_c1 v && cw_c1 w then cw_go (pc + len) ls (v :: w :: v :: w :: s) m else none
      | _ => none
    | .goto _ => cw_go a ls st m
    | .ifCond c _ => cw_p1 st fun u s => match c with
      | .eq => cw_br (u = 0) a (pc + len) s
      | .ne => cw_br (u ≠ 0) a (pc + len) s
      | .lt => cw_br (u < 0) a (pc + len) s
      | .ge => cw_br (0 ≤ u) a (pc + len) s
      | .gt => cw_br (0 < u) a (pc + len) s
      | .le => cw_br (u ≤ 0) a (pc + len) s
    | .if_icmp c _ => cw_p2 st fun u v s => match c with
      | .eq => cw_br (u = v) a (pc + len) s
      | .ne => cw_br (u ≠ v) a (pc + len) s
      | .lt => cw_br (u < v) a (pc + len) s
      | .ge => cw_br (v ≤ u) a (pc + len) s
      | .gt => cw_br (v < u) a (pc + len) s
      | .le => cw_br (u ≤ v) a (pc + len) s
    | .ifnull _ => cw_r1 st fun c s => cw_br (c = 0) a (pc + len) s
    | .ifnonnull _ => cw_r1 st fun c s => cw_br (c ≠ 0) a (pc + len) s
    | .tableswitch d lo hi os => cw_p1 st fun u s => cw_go (cw_ts pc d lo hi os u) ls s m
    | .lookupswitch d ps => cw_p1 st fun u s => cw_go (cw_lk pc d ps.toList u) ls s m
    | .getfield _ => cw_r1 st fun c s => cw_ck (cw_tg c = x) (pc + len) ls (cw_kv a (m c y) :: s) m
    | .putfield _ => match a with
      | 0 => cw_p1 st fun v s => cw_r1 s fun c s' => match b with
        | 0 => cw_ck (cw_tg c = x ∧ cw_own c) (pc + len) ls s' (cw_put m c y v)
        | b => cw_ck (cw_tg c = x ∧ cw_own c ∧ cw_ok b v) (pc + len) ls s' (cw_put m c y v)
      | 1 => cw_l1 st fun v s => cw_r1 s fun c s' => cw_ck (cw_tg c = x ∧ cw_own c) (pc + len) ls s' (cw_put m c y v)
      | _ => cw_r1 st fun v s => cw_r1 s fun c s' => cw_ck (cw_tg c = x ∧ cw_own c) (pc + len) ls s' (cw_put m c y v)
    | .arraylength => cw_r1 st fun c s => cw_ck (40 ≤ cw_tg c) (pc + len) ls (vi (cw_ln c) :: s) m
    | .iaload => cw_ri st fun c i s => cw_ck (cw_tg c = 40 ∧ 0 ≤ i ∧ i < cw_ln c) (pc + len) ls (vi (m c i) :: s) m
    | .laload => cw_ri st fun c i s => cw_ck (cw_tg c = 41 ∧ 0 ≤ i ∧ i < cw_ln c) (pc + len) ls (vl (m c i) :: s) m
    | .baload => cw_ri st fun c i s => cw_ck ((cw_tg c = 42 ∨ cw_tg c = 43) ∧ 0 ≤ i ∧ i < cw_ln c) (pc + len) ls (vi (m c i) :: s) m
    | .aaload => cw_ri st fun c i s => cw_ck ((cw_tg c = 44 ∨ cw_tg c = 45) ∧ 0 ≤ i ∧ i < cw_ln c) (pc + len) ls (vr (m c i) :: s) m
    | .iastore => cw_rii st fun c i v s => cw_ck ((cw_tg c = 40 ∧ cw_own c) ∧ 0 ≤ i ∧ i < cw_ln c) (pc + len) ls s (cw_put m c i v)
    | .lastore => cw_ril st fun c i v s => cw_ck ((cw_tg c = 41 ∧ cw_own c) ∧ 0 ≤ i ∧ i < cw_ln c) (pc + len) ls s (cw_put m c i v)
    | .bastore => cw_rii st fun c i v s => cw_ck (((cw_tg c = 42 ∧ cw_ok 1 v ∨ cw_tg c = 43 ∧ cw_ok 3 v) ∧ cw_own c) ∧ 0 ≤ i ∧ i < cw_ln c) (pc + len) ls s (cw_put m c i v)
    | .aastore => cw_rir st fun c i v s => cw_ck (((cw_tg c = 44 ∧ (v = 0 ∨ cw_tg v = 8) ∨ cw_tg c = 45 ∧ (v = 0 ∨ cw_tg v = 9)) ∧ cw_own c) ∧ 0 ≤ i ∧ i < cw_ln c) (pc + len) ls s (cw_put m c i v)
    | .new _ => cw_ck (m (-1) 0 < cw_LC ∧ m (-1) 1 + y ≤ cw_LS) (pc + len) ls (vr (cw_nc m x y) :: st) (cw_new m x y)
    | .newarray _ => cw_p1 st fun n s => cw_ck ((0 ≤ n ∧ n < 16384) ∧ m (-1) 0 < cw_LC ∧ m (-1) 1 + n ≤ cw_LS) (pc + len) ls (vr (cw_nc m x n) :: s) (cw_new m x n)
    | .anewarray _ => cw_p1 st fun n s => cw_ck ((0 ≤ n ∧ n < 16384) ∧ m (-1) 0 < cw_LC ∧ m (-1) 1 + n ≤ cw_LS) (pc + len) ls (vr (cw_nc m x n) :: s) (cw_new m x n)
    | .ireturn => match st with
      | [some (.inl v)] => match a with
        | 0 => cw_rt (some (vi v))
        | a => cw_rc (cw_ok a v) (some (vi v))
      | _ => none
    | .lreturn => match st with
      | [some (.inr (.inl v))] => cw_rt (some (vl v))
      | _ => none
    | .areturn => match st with
      | [some (.inr (.inr v))] => cw_rt (some (vr v))
      | _ => none
    | .return_ => match st with
      | [] => cw_rt none
      | _ => none
    | .invokespecial _ => match a with
      | 0 => cw_r1 st fun c s => bif Nat.ble (cw_cs s) 8 then cw_ck (c ≠ 0) (pc + len) ls s m else none
      | a => cw_pn b st [] fun as s => bif Nat.ble (cw_cs s) 8 && Nat.ble (cw_cs as) y.toNat then (match as with
        | some (.inr (.inr c)) :: t => cw_cc (cw_tg c = x) a (vr c :: t) (pc + len) s
        | _ => none) else none
    | .invokevirtual _ => cw_pn b st [] fun as s => bif Nat.ble (cw_cs s) 8 && Nat.ble (cw_cs as) y.toNat then (match as with
        | some (.inr (.inr c)) :: t => cw_cc (cw_tg c = x) a (vr c :: t) (pc + len) s
        | _ => none) else none
    | .invokestatic _ => match a with
      | 0 => match st with
        | some (.inl n) :: some (.inl dp) :: some (.inr (.inr d)) :: some (.inl sp) :: some (.inr (.inr c)) :: s => bif Nat.ble (cw_cs s) 8 then cw_ck ((cw_tg c = 40 ∧ cw_tg d = 40 ∧ cw_own c ∧ cw_own d) ∧ (0 ≤ sp ∧ 0 ≤ dp ∧ 0 ≤ n) ∧ sp + n ≤ cw_ln c ∧ dp + n ≤ cw_ln d) (pc + len) ls s (cw_cpy m c sp d dp n) else none
        | _ => none
      | a => cw_pn b st [] fun as s => bif Nat.ble (cw_cs s) 8 && Nat.ble (cw_cs as) y.toNat then cw_cl a as (pc + len) s else none
    | _ => none
def cw_ft : List cw_A → Nat → Option cw_A
  | [], _ => none
  | q :: t, pc => bif Nat.beq q.1 pc then some q else cw_ft t pc
