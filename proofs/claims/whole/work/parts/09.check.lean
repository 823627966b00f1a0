/-! What is asked of every instruction in the table: that the bytes say it, and that its links are in the tables. -/
def cw_ins32 (x : Int) : Bool := decide (-2147483648 ≤ x) && decide (x < 2147483648)
def cw_ft4 (o idx : Nat) (x y : Int) : Bool := decide (1 ≤ x) && decide (x ≤ 11) && decide (0 ≤ y) && decide (y.toNat < cw_N (x.toNat - 1)) && (cw_LF.any (fun e => e.2 == (o, idx, x.toNat - 1, y.toNat)) || cw_LG.any (fun e => e.2 == (o, idx, x.toNat - 1, y.toNat)))
/-- a field's kind and how small it is -/
def cw_fk (ty : FieldType) : Nat × Nat := match ty with
  | .int => (0, 0)
  | .boolean => (0, 1)
  | .char => (0, 2)
  | .byte => (0, 3)
  | .short => (0, 4)
  | .long => (1, 0)
  | .object _ => (2, 0)
  | .array _ => (2, 0)
  | _ => (3, 0)
def cw_okm (o idx k a b : Nat) (y : Int) : Bool := decide (1 ≤ a) && decide (a < 269) && (y == ((cw_ml a : Nat) : Int)) && (cw_kn a == k) && (b == cw_np a + (bif k == 0 then 0 else 1)) && (cw_LM.any (fun e => e.2 == (o, idx, a)) || cw_LN.any (fun e => e.2 == (o, idx, a)))
def cw_sc (i : Nat) : Int := (((4 + i : Nat) : Int) * 16384) * 64 + 12
def cw_rk (a : Nat) (r : Option FieldType) : Bool := match a with
  | 0 => r == some .int
  | 1 => r == some .boolean
  | 2 => r == some .char
  | 3 => r == some .byte
  | 4 => r == some .short
  | _ => false
def cw_okc (u pc len : Nat) (i : ClassFile.Instr) (a b : Nat) (x y : Int) : Bool := match i with
    | .aconst_null => len == 1
    | .iconst n => len == 1 && x == n && cw_ins32 x
    | .bipush n => len == 2 && x == n && decide (-128 ≤ x) && decide (x < 128)
    | .sipush n => len == 3 && x == n && decide (-32768 ≤ x) && decide (x < 32768)
    | .lconst n => len == 1 && x == ((n : Nat) : Int)
    | .ldc n => len == 2 && ((a == 0 && cw_ins32 x && cw_LI.any (fun e => e.2 == (cw_oc u, n, x))) || (a == 2 && cw_LS0.any (fun e => e.2.1 == cw_oc u && e.2.2.1 == n && cw_sc e.2.2.2 == x && decide (e.2.2.2 < 11))))
    | .ldc_w n => len == 3 && a == 0 && cw_ins32 x && cw_LI.any (fun e => e.2 == (cw_oc u, n, x))
    | .ldc2_w n => len == 3 && cw_LL.any (fun e => e.2 == (cw_oc u, n, x)) && decide (-9223372036854775808 ≤ x) && decide (x < 9223372036854775808)
    | .getstatic n => len == 3 && ((cw_oc u == 12 && n == 38 && a == 0 && x == 1) || (cw_oc u == 12 && n == 1053 && a == 3) || (cw_oc u == 0 && n == 32 && a == 2 && x == 2097640) || (cw_oc u == 9 && n == 165 && a == 2 && x == 3146024))
    | .iload n => len == 2 && a == n
    | .iload_n n => len == 1 && a == n
    | .lload n => len == 2 && a == n
    | .lload_n n => len == 1 && a == n
    | .aload n => len == 2 && a == n
    | .aload_n n => len == 1 && a == n
    | .istore n => len == 2 && a == n
    | .istore_n n => len == 1 && a == n
    | .lstore n => len == 2 && a == n
    | .lstore_n n => len == 1 && a == n
    | .astore n => len == 2 && a == n
    | .astore_n n => len == 1 && a == n
    | .iinc n k => len == 3 && a == n && x == k
    | .goto off => len == 3 && ((pc : Int) + off == (a : Int))
    | .ifCond _ off => len == 3 && ((pc : Int) + off == (a : Int))
    | .if_icmp _ off => len == 3 && ((pc : Int) + off == (a : Int))
    | .ifnull off => len == 3 && ((pc : Int) + off == (a : Int))
    | .ifnonnull off => len == 3 && ((pc : Int) + off == (a : Int))
    | .tableswitch d lo hi os => decide (0 ≤ (pc : Int) + d) && (os.size == (hi - lo + 1).toNat) && decide (lo ≤ hi) && os.toList.all (fun z => decide (0 ≤ (pc : Int) + z))
    | .lookupswitch d ps => decide (0 ≤ (pc : Int) + d) && (ps.toList.zip (ps.toList.drop 1)).all (fun (a, next) => decide (a.1 < next.1)) && ps.toList.all (fun z => decide (0 ≤ (pc : Int) + z.2))
    | .getfield n => len == 3 && ((x == 12 && cw_oc u == 12 && ((n == 9 && y == 0 && a == 2) || (n == 15 && y == 1 && a == 0))) || (cw_ft4 (cw_oc u) n x y && (cw_fk (cw_ty (x.toNat - 1) y.toNat)).1 == a))
    | .putfield n => len == 3 && cw_ft4 (cw_oc u) n x y && cw_fk (cw_ty (x.toNat - 1) y.toNat) == (a, b) && (!(cw_TT (x.toNat - 1) y.toNat).2.2.2 || (cw_kn u == 2 && cw_oc u == x.toNat - 1 && !(cw_LG.any (fun e => e.2 == (cw_oc u, n, x.toNat - 1, y.toNat)))))
    | .new n => len == 3 && decide (1 ≤ x) && decide (x ≤ 11) && y == ((cw_N (x.toNat - 1) : Nat) : Int) && cw_LC0.any (fun e => e.2 == (cw_oc u, n, x.toNat - 1))
    | .newarray t => len == 2 && (match t with | .int => x == 40 | .long => x == 41 | .boolean => x == 42 | .byte => x == 43 | _ => false)
    | .anewarray n => len == 3 && ((x == 44 && cw_LC0.any (fun e => e.2 == (cw_oc u, n, 7))) || (x == 45 && cw_LC0.any (fun e => e.2 == (cw_oc u, n, 8))))
    | .ireturn => len == 1 && cw_rk a (cw_rtt u)
    | .lreturn => len == 1 && cw_rtt u == some .long
    | .areturn => len == 1 && (match cw_rtt u with | some (.object _) => true | some (.array _) => true | _ => false)
    | .return_ => len == 1 && (cw_rtt u).isNone
    | .invokespecial n => len == 3 && ((a == 0 && cw_LO.any (fun e => e.2 == (cw_oc u, n))) || (cw_okm (cw_oc u) n 2 a b y && decide (1 ≤ x) && decide (x ≤ 11) && (cw_oc a == x.toNat - 1)))
    | .invokevirtual n => len == 3 && cw_okm (cw_oc u) n 1 a b y && ((x == 12 && cw_oc a == 12) || (decide (1 ≤ x) && decide (x ≤ 11) && (cw_oc a == x.toNat - 1)))
    | .invokestatic n => len == 3 && ((a == 0 && cw_LA.any (fun e => e.2 == (cw_oc u, n))) || cw_okm (cw_oc u) n 0 a b y)
    | _ => len == 1
def cw_okb (u : Nat) (q : cw_A) : Bool := match q with
  | (pc, len, i, a, b, x, y) => decide (decode (cw_by u) pc = .ok (i, len)) && cw_okc u pc len i a b x y
theorem cw_okb_inv {u pc len : Nat} {i : ClassFile.Instr} {a b : Nat} {x y : Int} (h : cw_okb u (pc, len, i, a, b, x, y) = true) : decode (cw_by u) pc = .ok (i, len) ∧ cw_okc u pc len i a b x y = true := by
  have h : (decide (decode (cw_by u) pc = .ok (i, len)) && cw_okc u pc len i a b x y) = true := h
  rw [Bool.and_eq_true, decide_eq_true_eq] at h
  exact h
theorem cw_ft_ok {f : cw_A → Bool} : ∀ {l : List cw_A} {pc : Nat} {q : cw_A}, l.all f = true → cw_ft l pc = some q → f q = true ∧ q.1 = pc
  | [], _, _, _, h => by cases h
  | q0 :: l, pc, q, ha, h => by
    unfold cw_ft at h
    rw [List.all_cons, Bool.and_eq_true] at ha
    cases hb : Nat.beq q0.1 pc with
    | true =>
      rw [hb] at h
      cases h
      exact ⟨ha.1, Nat.eq_of_beq_eq_true hb⟩
    | false =>
      rw [hb] at h
      exact cw_ft_ok ha.2 h
theorem cw_bif {α : Type} {b : Bool} {A B : Option α} {q : α} {P : Prop} (h : (bif b then A else B) = some q) (h1 : A = some q → P) (h2 : B = some q → P) : P := by
  cases b with
  | true => exact h1 h
  | false => exact h2 h
