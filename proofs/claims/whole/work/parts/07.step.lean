/-! one step of the abstract machine, and a run of it -/
section XOP
variable (xs : Nat → Int32) (xl : Nat)
/-- a value is pushed -/
def x_psh (y pc : Nat) (L : x_L) (M : x_J) (S : List Value) (h : x_H) (v : Option Value) : Option x_O := match v with
  | some v => x_go y pc L M (v :: S) h
  | none => none
def x_jmp (y : Nat) (L : x_L) (M : x_J) (S : List Value) (h : x_H) (t : Option Nat) : Option x_O := match t with
  | some t => x_go y t L M S h
  | none => none
def x_bin (y pc : Nat) (L : x_L) (M : x_J) (S : List Value) (h : x_H) (f : Int32 → Int32 → Option Int32) : Option x_O := match x_ii S with
  | some (a, b, r) => (match f a b with
    | some c => x_go y (pc + 1) L M (.int c :: r) h
    | none => none)
  | none => none
def x_un (y pc : Nat) (L : x_L) (M : x_J) (S : List Value) (h : x_H) (f : Int32 → Value) : Option x_O := match x_i1 S with
  | some (a, r) => x_go y (pc + 1) L M (f a :: r) h
  | none => none
def x_lbin (y pc : Nat) (L : x_L) (M : x_J) (S : List Value) (h : x_H) (f : Int64 → Int64 → Value) : Option x_O := match x_ll S with
  | some (a, b, r) => x_go y (pc + 1) L M (f a b :: r) h
  | none => none
/-- loads: of an int, of a reference -/
def x_li (L : x_L) (i : Nat) : Option Value := match x_lg L i with
  | some (.int x) => some (.int x)
  | _ => none
def x_la (L : x_L) (i : Nat) : Option Value := match x_lg L i with
  | some (.ref x) => if x = x_SF then none else if x < 100004 then some (.ref x) else none
  | _ => none
def x_lj (M : x_J) (i : Nat) : Option Value := match x_jg M i with
  | some x => some (.long x)
  | none => none
def x_si (y pc i : Nat) (L : x_L) (M : x_J) (S : List Value) (h : x_H) : Option x_O := match x_i1 S with
  | some (x, r) => if i < L.length then x_go y pc (x_s1 L i (.int x)) (x_m1 M i) r h else none
  | none => none
def x_sa (y pc i : Nat) (L : x_L) (M : x_J) (S : List Value) (h : x_H) : Option x_O := match x_r1 S with
  | some (x, r) => if i < L.length ∧ x < 100000 then x_go y pc (x_s1 L i (.ref x)) (x_m1 M i) r h else none
  | none => none
def x_sj (y pc i : Nat) (L : x_L) (M : x_J) (S : List Value) (h : x_H) : Option x_O := match x_l1 S with
  | some (x, r) => if i + 1 < L.length then x_go y pc (x_s2 L i) (x_m2 M i x) r h else none
  | none => none
def x_inc (y pc i : Nat) (n : Int) (L : x_L) (M : x_J) (S : List Value) (h : x_H) : Option x_O := match x_lg L i with
  | some (.int x) => if i < L.length then x_go y (pc + 3) (x_s1 L i (.int (x + Int32.ofInt n))) (x_m1 M i) S h else none
  | _ => none
/-- fields -/
def x_gf (y pc : Nat) (L : x_L) (M : x_J) (S : List Value) (h : x_H) (c k q : Nat) : Option x_O := match x_r1 S with
  | some (o, r) => (match c with
    | 9991 => if o = x_ST then x_go y (pc + 3) L M (.ref x_SV :: r) h else none
    | 9992 => if o = x_ST then x_go y (pc + 3) L M (.int 0 :: r) h else none
    | c => (match x_ob h o c with
      | true => (match q with
        | 1 => x_go y (pc + 3) L M (x_rv (h.2.2.2 o k) :: r) h
        | _ => x_go y (pc + 3) L M (.int (h.2.1 o k) :: r) h)
      | false => none))
  | none => none
def x_pf (y pc : Nat) (L : x_L) (M : x_J) (S : List Value) (h : x_H) (c k q : Nat) : Option x_O := match q with
  | 1 => (match x_rr S with
    | some (v, o, r) => (match x_ob h o c with
      | true => if v < 100000 then x_go y (pc + 3) L M r (h.1, h.2.1, h.2.2.1, x_u2 h.2.2.2 o k (some v)) else none
      | false => none)
    | none => none)
  | 2 => (match x_ir S with
    | some (v, o, r) => (match x_ob h o c with
      | true => if v = 0 ∨ v = 1 then x_go y (pc + 3) L M r (h.1, x_u2 h.2.1 o k v, h.2.2.1, h.2.2.2) else none
      | false => none)
    | none => none)
  | _ => (match x_ir S with
    | some (v, o, r) => (match x_ob h o c with
      | true => x_go y (pc + 3) L M r (h.1, x_u2 h.2.1 o k v, h.2.2.1, h.2.2.2)
      | false => none)
    | none => none)
/-- arrays: is this place in it -/
def x_in? (i : Int32) (n : Nat) (A : Option x_O) : Option x_O := if i < 0 ∨ n ≤ i.toNatClampNeg then none else A
def x_iald (y pc : Nat) (L : x_L) (M : x_J) (S : List Value) (h : x_H) : Option x_O := match x_ir S with
  | some (i, a, r) => (match a with
    | 100000 => x_in? i xl (x_go y (pc + 1) L M (.int (xs i.toNatClampNeg) :: r) h)
    | a => (match x_ar h a with
      | some (0, n) => x_in? i n (x_go y (pc + 1) L M (.int (h.2.1 a i.toNatClampNeg) :: r) h)
      | _ => none))
  | none => none
def x_bald (y pc : Nat) (L : x_L) (M : x_J) (S : List Value) (h : x_H) : Option x_O := match x_ir S with
  | some (i, a, r) => (match a with
    | 100002 => x_in? i x_wl (x_go y (pc + 1) L M (.int (x_wb.getD i.toNatClampNeg 0) :: r) h)
    | a => (match x_ar h a with
      | some (1, n) => x_in? i n (x_go y (pc + 1) L M (.int (h.2.1 a i.toNatClampNeg) :: r) h)
      | some (2, n) => x_in? i n (x_go y (pc + 1) L M (.int (h.2.1 a i.toNatClampNeg) :: r) h)
      | _ => none))
  | none => none
def x_jald (y pc : Nat) (L : x_L) (M : x_J) (S : List Value) (h : x_H) : Option x_O := match x_ir S with
  | some (i, a, r) => (match x_ar h a with
    | some (3, n) => x_in? i n (x_go y (pc + 1) L M (.long (h.2.2.1 a i.toNatClampNeg) :: r) h)
    | _ => none)
  | none => none
def x_aald (y pc : Nat) (L : x_L) (M : x_J) (S : List Value) (h : x_H) : Option x_O := match x_ir S with
  | some (i, a, r) => (match x_ar h a with
    | some (4, n) => x_in? i n (x_go y (pc + 1) L M (x_rv (h.2.2.2 a i.toNatClampNeg) :: r) h)
    | _ => none)
  | none => none
def x_iast (y pc : Nat) (L : x_L) (M : x_J) (S : List Value) (h : x_H) : Option x_O := match x_iir S with
  | some (x, i, a, r) => (match x_ar h a with
    | some (0, n) => x_in? i n (x_go y (pc + 1) L M r (h.1, x_u2 h.2.1 a i.toNatClampNeg x, h.2.2.1, h.2.2.2))
    | _ => none)
  | none => none
def x_bast (y pc : Nat) (L : x_L) (M : x_J) (S : List Value) (h : x_H) : Option x_O := match x_iir S with
  | some (x, i, a, r) => (match x_ar h a with
    | some (1, n) => x_in? i n (x_go y (pc + 1) L M r (h.1, x_u2 h.2.1 a i.toNatClampNeg (vp_nar .byte x), h.2.2.1, h.2.2.2))
    | some (2, n) => x_in? i n (x_go y (pc + 1) L M r (h.1, x_u2 h.2.1 a i.toNatClampNeg (vp_nar .boolean x), h.2.2.1, h.2.2.2))
    | _ => none)
  | none => none
def x_jast (y pc : Nat) (L : x_L) (M : x_J) (S : List Value) (h : x_H) : Option x_O := match x_lir S with
  | some (x, i, a, r) => (match x_ar h a with
    | some (3, n) => x_in? i n (x_go y (pc + 1) L M r (h.1, h.2.1, x_u2 h.2.2.1 a i.toNatClampNeg x, h.2.2.2))
    | _ => none)
  | none => none
def x_aast (y pc : Nat) (L : x_L) (M : x_J) (S : List Value) (h : x_H) : Option x_O := match x_rir S with
  | some (x, i, a, r) => (match x_ar h a with
    | some (4, n) => (match x_ob h x 0 with
      | true => x_in? i n (x_go y (pc + 1) L M r (h.1, h.2.1, h.2.2.1, x_u2 h.2.2.2 a i.toNatClampNeg (some x)))
      | false => none)
    | _ => none)
  | none => none
def x_alen (y pc : Nat) (L : x_L) (M : x_J) (S : List Value) (h : x_H) : Option x_O := match x_r1 S with
  | some (a, r) => (match a with
    | 100000 => x_go y (pc + 1) L M (.int (Int32.ofNat xl) :: r) h
    | 100002 => x_go y (pc + 1) L M (.int (Int32.ofNat x_wl) :: r) h
    | a => (match x_ar h a with
      | some (t, n) => if t < 5 then x_go y (pc + 1) L M (.int (Int32.ofNat n) :: r) h else none
      | none => none))
  | none => none
/-- what is made -/
def x_new (y pc : Nat) (L : x_L) (M : x_J) (S : List Value) (h : x_H) (c : Nat) : Option x_O :=
  if h.1.length < 100000 then x_go y (pc + 3) L M (.ref h.1.length :: S) (h.1 ++ [.inl c], x_u1 h.2.1 h.1.length (fun _ => 0), h.2.2.1, x_u1 h.2.2.2 h.1.length (fun _ => none)) else none
def x_newa (y pc : Nat) (L : x_L) (M : x_J) (S : List Value) (h : x_H) (t : Nat) : Option x_O := match x_i1 S with
  | some (n, r) => if h.1.length < 100000 ∧ ¬ n < 0 ∧ n.toNatClampNeg < 100000 then
      x_go y (pc + 2) L M (.ref h.1.length :: r) (h.1 ++ [.inr (t, n.toNatClampNeg)], x_u1 h.2.1 h.1.length (fun _ => 0), x_u1 h.2.2.1 h.1.length (fun _ => 0), h.2.2.2) else none
  | none => none
def x_newq (y pc : Nat) (L : x_L) (M : x_J) (S : List Value) (h : x_H) : Option x_O := match x_i1 S with
  | some (n, r) => if h.1.length < 100000 ∧ ¬ n < 0 ∧ n.toNatClampNeg < 100000 then
      x_go y (pc + 3) L M (.ref h.1.length :: r) (h.1 ++ [.inr (4, n.toNatClampNeg)], h.2.1, h.2.2.1, x_u1 h.2.2.2 h.1.length (fun _ => none)) else none
  | none => none
/-- calls: of z, with n arguments and, but for a static one, the object -/
def x_call (y pc : Nat) (L : x_L) (M : x_J) (S : List Value) (h : x_H) (z n : Nat) : Option x_O := match x_pop n [] S with
  | some (As, r) => if x_cat r ≤ 8 then some (.inr (.inr ((z, As), (y, pc + 3, L, M, r), h))) else none
  | none => none
def x_callv (y pc : Nat) (L : x_L) (M : x_J) (S : List Value) (h : x_H) (z n : Nat) : Option x_O := match x_pop n [] S with
  | some (As, .ref o :: r) => if o < 100000 ∧ x_cat r ≤ 8 then some (.inr (.inr ((z, .ref o :: As), (y, pc + 3, L, M, r), h))) else none
  | _ => none
def x_calld (y pc : Nat) (L : x_L) (M : x_J) (S : List Value) (h : x_H) (z n c : Nat) : Option x_O := match x_pop n [] S with
  | some (As, .ref o :: r) => (match (match c with
    | 9990 => decide (o = x_ST)
    | c => x_ob h o c) with
    | true => if x_cat r ≤ 8 then some (.inr (.inr ((z, .ref o :: As), (y, pc + 3, L, M, r), h))) else none
    | false => none)
  | _ => none
def x_copy (y pc : Nat) (L : x_L) (M : x_J) (S : List Value) (h : x_H) : Option x_O := match x_cpy S with
  | some (n, dp, a, sp, a0, r) => (match x_ar h a, x_ar h a0 with
    | some (0, n1), some (0, n0) => if ¬ sp < 0 ∧ ¬ dp < 0 ∧ ¬ n < 0 ∧ sp.toNatClampNeg + n.toNatClampNeg ≤ n0 ∧ dp.toNatClampNeg + n.toNatClampNeg ≤ n1 ∧ x_cat r ≤ 8 then
        x_go y (pc + 3) L M r (h.1, x_u1 h.2.1 a (va_cpy (h.2.1 a0) (h.2.1 a) sp.toNatClampNeg dp.toNatClampNeg n.toNatClampNeg), h.2.2.1, h.2.2.2) else none
    | _, _ => none)
  | none => none
def x_obi (y pc : Nat) (L : x_L) (M : x_J) (S : List Value) (h : x_H) : Option x_O := match x_r1 S with
  | some (o, r) => if o < 100000 ∧ x_cat r ≤ 8 then x_go y (pc + 3) L M r h else none
  | none => none
/-- Math.max, Math.min, Math.abs -/
def x_mth (y pc : Nat) (L : x_L) (M : x_J) (S : List Value) (h : x_H) (fn : Int32 → Int32 → Int32) : Option x_O := match x_ii S with
  | some (x, z, r) => if x_cat r ≤ 8 then x_go y (pc + 3) L M (.int (fn x z) :: r) h else none
  | none => none
def x_mab (y pc : Nat) (L : x_L) (M : x_J) (S : List Value) (h : x_H) : Option x_O := match x_i1 S with
  | some (x, r) => if x_cat r ≤ 8 then x_go y (pc + 3) L M (.int (if 0 ≤ x then x else 0 - x) :: r) h else none
  | none => none
def x_iret (y : Nat) (S : List Value) (h : x_H) : Option x_O := match S with
  | [.int v] => (match x_m y with
    | some mm => (match x_nok mm.2.2.2.1 v with
      | true => some (.inr (.inl (some (.int v), h)))
      | false => none)
    | none => none)
  | _ => none
def x_jret (S : List Value) (h : x_H) : Option x_O := match S with
  | [.long v] => some (.inr (.inl (some (.long v), h)))
  | _ => none
def x_vret (S : List Value) (h : x_H) : Option x_O := match S with
  | [] => some (.inr (.inl (none, h)))
  | _ => none
def x_sw (pc : Nat) (dflt lo hi : Int) (offs : Array Int) (x : Int32) : Option Nat :=
  if x.toInt < lo ∨ hi < x.toInt then x_tg pc dflt else (match offs[(x.toInt - lo).toNat]? with
    | some off => x_tg pc off
    | none => none)
def x_op (y pc : Nat) (L : x_L) (M : x_J) (S : List Value) (h : x_H) (e : x_E) : Option x_O := match e with
  | (ins, _, a, b, _, q) => match ins with
    | .aload_n k => x_psh y (pc + 1) L M S h (x_la L k)
    | .aload k => x_psh y (pc + 2) L M S h (x_la L k)
    | .iload_n k => x_psh y (pc + 1) L M S h (x_li L k)
    | .iload k => x_psh y (pc + 2) L M S h (x_li L k)
    | .lload_n k => x_psh y (pc + 1) L M S h (x_lj M k)
    | .lload k => x_psh y (pc + 2) L M S h (x_lj M k)
    | .istore_n k => x_si y (pc + 1) k L M S h
    | .istore k => x_si y (pc + 2) k L M S h
    | .astore_n k => x_sa y (pc + 1) k L M S h
    | .astore k => x_sa y (pc + 2) k L M S h
    | .lstore_n k => x_sj y (pc + 1) k L M S h
    | .lstore k => x_sj y (pc + 2) k L M S h
    | .iinc k n => x_inc y pc k n L M S h
    | .iconst n => x_go y (pc + 1) L M (.int (Int32.ofInt n) :: S) h
    | .bipush n => x_go y (pc + 2) L M (.int (Int8.ofInt n).toInt32 :: S) h
    | .sipush n => x_go y (pc + 3) L M (.int (Int16.ofInt n).toInt32 :: S) h
    | .lconst n => x_go y (pc + 1) L M (.long (Int64.ofNat (n : Nat)) :: S) h
    | .ldc _ => (match q with
      | 1 => x_go y (pc + 2) L M (.ref x_ST :: S) h
      | _ => x_go y (pc + 2) L M (.int (Int32.ofNat a) :: S) h)
    | .ldc_w _ => x_go y (pc + 3) L M (.int (Int32.ofNat a) :: S) h
    | .ldc2_w _ => x_go y (pc + 3) L M (.long (if b = 1 then Int64.ofInt (-(a : Int)) else Int64.ofInt (a : Int)) :: S) h
    | .iadd => x_bin y pc L M S h (fun a b => some (a + b))
    | .isub => x_bin y pc L M S h (fun a b => some (a - b))
    | .imul => x_bin y pc L M S h (fun a b => some (a * b))
    | .iand => x_bin y pc L M S h (fun a b => some (a &&& b))
    | .ior => x_bin y pc L M S h (fun a b => some (a ||| b))
    | .ixor => x_bin y pc L M S h (fun a b => some (a ^^^ b))
    | .idiv => x_bin y pc L M S h (fun a b => if b = 0 then none else some (a / b))
    | .irem => x_bin y pc L M S h (fun a b => if b = 0 then none else some (a - a / b * b))
    | .ishl => x_bin y pc L M S h (fun a b => some (a <<< (b &&& 31)))
    | .ishr => x_bin y pc L M S h (fun a b => some (a >>> (b &&& 31)))
    | .iushr => x_bin y pc L M S h (fun a b => some (a.toUInt32 >>> (b.toUInt32 &&& Int32.toUInt32 31)).toInt32)
    | .ineg => x_un y pc L M S h (fun a => .int (-a))
    | .i2l => x_un y pc L M S h (fun a => .long a.toInt64)
    | .i2b => x_un y pc L M S h (fun a => .int a.toInt8.toInt32)
    | .i2c => x_un y pc L M S h (fun a => .int (a.toUInt32 % 65536).toInt32)
    | .ladd => x_lbin y pc L M S h (fun a b => .long (a + b))
    | .lsub => x_lbin y pc L M S h (fun a b => .long (a - b))
    | .lmul => x_lbin y pc L M S h (fun a b => .long (a * b))
    | .lcmp => x_lbin y pc L M S h (fun a b => .int (lg_cmp a b))
    | .dup => (match S with
      | v :: r => if v.category = 1 then x_go y (pc + 1) L M (v :: v :: r) h else none
      | [] => none)
    | .dup2 => (match S with
      | v :: w :: r => if v.category = 1 ∧ w.category = 1 then x_go y (pc + 1) L M (v :: w :: v :: w :: r) h else none
      | _ => none)
    | .pop => (match S with
      | v :: r => if v.category = 1 then x_go y (pc + 1) L M r h else none
      | [] => none)
    | .ifCond c off => (match x_i1 S, x_tg pc off with
      | some (x, r), some t => x_br c x 0 (x_go y t L M r h) (x_go y (pc + 3) L M r h)
      | _, _ => none)
    | .if_icmp c off => (match x_ii S, x_tg pc off with
      | some (x, z, r), some t => x_br c x z (x_go y t L M r h) (x_go y (pc + 3) L M r h)
      | _, _ => none)
    | .goto off => x_jmp y L M S h (x_tg pc off)
    | .tableswitch dflt lo hi offs => (match x_i1 S with
      | some (x, r) => x_jmp y L M r h (x_sw pc dflt lo hi offs x)
      | none => none)
    | .lookupswitch dflt ps => (match x_i1 S with
      | some (x, r) => x_jmp y L M r h (x_tg pc (Op.lookupswitch.offset ps.toList dflt x.toInt))
      | none => none)
    | .getstatic _ => (match a with
      | 1 => x_go y (pc + 3) L M (.int 1 :: S) h
      | _ => x_go y (pc + 3) L M (.ref x_SF :: S) h)
    | .getfield _ => x_gf y pc L M S h a b q
    | .putfield _ => x_pf y pc L M S h a b q
    | .iaload => x_iald xs xl y pc L M S h
    | .baload => x_bald y pc L M S h
    | .laload => x_jald y pc L M S h
    | .aaload => x_aald y pc L M S h
    | .iastore => x_iast y pc L M S h
    | .bastore => x_bast y pc L M S h
    | .lastore => x_jast y pc L M S h
    | .aastore => x_aast y pc L M S h
    | .arraylength => x_alen xl y pc L M S h
    | .new _ => x_new y pc L M S h a
    | .newarray _ => x_newa y pc L M S h a
    | .anewarray _ => x_newq y pc L M S h
    | .invokespecial _ => (match a with
      | 9999 => x_obi y pc L M S h
      | z => x_callv y pc L M S h z b)
    | .invokevirtual _ => x_calld y pc L M S h a b q
    | .invokestatic _ => (match a with
      | 9998 => x_copy y pc L M S h
      | 286 => (match q with
        | 0 => x_mab y pc L M S h
        | _ => none)
      | 287 => (match q with
        | 0 => x_mth y pc L M S h (fun x z => if x < z then z else x)
        | _ => none)
      | 288 => (match q with
        | 0 => x_mth y pc L M S h (fun x z => if z < x then z else x)
        | _ => none)
      | z => x_call y pc L M S h z b)
    | .ireturn => x_iret y S h
    | .lreturn => x_jret S h
    | .return_ => x_vret S h
    | _ => none
def x_ln (i : Instr) : Nat := match i with
  | .aload _ => 2
  | .iload _ => 2
  | .lload _ => 2
  | .istore _ => 2
  | .astore _ => 2
  | .lstore _ => 2
  | .bipush _ => 2
  | .ldc _ => 2
  | .newarray _ => 2
  | .iinc _ _ => 3
  | .sipush _ => 3
  | .ldc_w _ => 3
  | .ldc2_w _ => 3
  | .ifCond _ _ => 3
  | .if_icmp _ _ => 3
  | .goto _ => 3
  | .getstatic _ => 3
  | .getfield _ => 3
  | .putfield _ => 3
  | .new _ => 3
  | .anewarray _ => 3
  | .invokespecial _ => 3
  | .invokevirtual _ => 3
  | .invokestatic _ => 3
  | _ => 1
/-- an entry's length is its instruction's -/
def x_lok (e : x_E) : Bool := match e.1 with
  | .tableswitch _ _ _ _ => true
  | .lookupswitch _ _ => true
  | i => Nat.beq e.2.1 (x_ln i)
def x_st (f : x_F) (h : x_H) : Option x_O := match x_ins f.1 f.2.1 with
  | some e => (match x_lok e with
    | true => x_op xs xl f.1 f.2.1 f.2.2.1 f.2.2.2.1 f.2.2.2.2 h e
    | false => none)
  | none => none
/-- a call's first frame -/
def x_en (z : Nat) (As : List Value) : Option x_F := match x_m z with
  | some mm => if (x_eL As).length ≤ mm.2.2.1 then some (z, 0, x_pad mm.2.2.1 (x_eL As), (if 4 ≤ mm.2.2.2.2.1 then x_pad mm.2.2.1 (x_eM As) else []), []) else none
  | none => none
def x_ps (v : Option Value) (f : x_F) : x_F := (f.1, f.2.1, f.2.2.1, f.2.2.2.1, v.toList ++ f.2.2.2.2)
/-- a run: n bounds its steps, a call's included -/
def x_ex : Nat → x_F → x_H → Option (Option Value × x_H)
  | 0, _, _ => none
  | n + 1, f, h => match x_st xs xl f h with
    | none => none
    | some (.inl (f', h')) => x_ex n f' h'
    | some (.inr (.inl r)) => some r
    | some (.inr (.inr ((z, As), f', h'))) => match x_en z As with
      | none => none
      | some f0 => match x_ex n f0 h' with
        | none => none
        | some (v, h2) => x_ex n (x_ps v f') h2
end XOP
