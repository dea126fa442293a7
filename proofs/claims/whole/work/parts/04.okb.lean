/-! what the tables must say of an entry of the code -/
def x_a5 (a : Nat) : FieldType := match a with
  | 0 => .int
  | 1 => .byte
  | 2 => .boolean
  | 3 => .long
  | _ => .object "AgeHill$Folk"
def x_tb (p : Nat) (w : Cond) : Bool := decide (lw_tbl[p]? = some w)
def x_cn (c : Nat) : String × u_T × Nat := match x_at x_cl c with
  | some q => q
  | none => ("", x_T [], 0)
def x_isr (t : FieldType) : Bool := match t with
  | .array _ => true
  | .object _ => true
  | _ => false
def x_okf (cls : String) (idx c k p q : Nat) : Bool :=
  decide (c < 13) && decide (k < (x_cn c).2.2) && x_tb p (.fieldLink cls idx ((x_cn c).2.1 k).1 ((x_cn c).2.1 k).2.1 ((x_cn c).2.1 k).2.2.1) &&
  (match q with
    | 0 => decide (x_ty c k = .int)
    | 1 => x_isr (x_ty c k)
    | _ => decide (q = 2) && decide (x_ty c k = .boolean))
def x_okc (mm : x_M) (idx z n p nest kd : Nat) : Bool := match x_m z with
  | some zz => decide (z ≠ 0) && decide (zz.2.2.2.2.1 % 4 = kd) && decide (zz.2.2.2.2.2.1 = n) && decide (zz.2.2.2.2.2.2.1 + 1 ≤ mm.2.2.2.2.2.2.1) && decide (8 + (zz.2.2.1 + 11) + zz.2.2.2.2.2.2.2.1 ≤ mm.2.2.2.2.2.2.2.1) &&
    (match nest with
      | 1 => x_tb p (.methodLinkNest mm.1.cls idx zz.1 "AgeHill")
      | _ => x_tb p (.methodLink mm.1.cls idx zz.1))
  | none => false
def x_tx : String := "house left right step lane by eldest mean cost worth comes dies forgive if or and not age size lame month from to far gap loved good "
def x_okz (mm : x_M) (e : x_E) : Bool := match e with
  | (ins, _, a, b, p, q) => match ins with
    | .getfield idx => (match a with
      | 9991 => x_tb p (.fieldLink mm.1.cls idx "java/lang/String" "value" "[B")
      | 9992 => x_tb p (.fieldLink mm.1.cls idx "java/lang/String" "coder" "B")
      | c => x_okf mm.1.cls idx c b p q)
    | .putfield idx => x_okf mm.1.cls idx a b p q && (!((x_cn a).2.1 b).2.2.2 || (decide (mm.1.name = "<init>") && decide (((x_cn a).2.1 b).1 = mm.1.cls)))
    | .getstatic idx => (match a with
      | 1 => x_tb p (.fieldLink mm.1.cls idx "java/lang/String" "COMPACT_STRINGS" "Z")
      | _ => x_tb p (.fieldLink mm.1.cls idx "jdk/internal/util/Preconditions" "SIOOBE_FORMATTER" "Ljava/util/function/BiFunction;"))
    | .ldc idx => (match q with
      | 1 => decide (mm.1.cls = "AgeHill$Reader") && decide (idx = 97)
      | _ => x_tb p (.constant mm.1.cls idx (Int32.ofNat a)))
    | .ldc_w idx => x_tb p (.constant mm.1.cls idx (Int32.ofNat a))
    | .ldc2_w idx => x_tb p (.constantLong mm.1.cls idx (if b = 1 then Int64.ofInt (-(a : Int)) else Int64.ofInt (a : Int)))
    | .new idx => decide (a < 13) && x_tb p (.classLink mm.1.cls idx (x_cn a).1)
    | .newarray t => decide (a < 4) && x_tb p (.arrayClass (newarray.typeOf t)) && decide (newarray.typeOf t = x_a5 a)
    | .anewarray idx => x_tb p (.classLink mm.1.cls idx "AgeHill$Folk") && x_tb q (.arrayOver (.object "AgeHill$Folk"))
    | .invokespecial idx => (match a with
      | 9999 => x_tb p (.methodLink mm.1.cls idx objectInit) && decide (20 ≤ mm.2.2.2.2.2.2.2.1) && decide (1 ≤ mm.2.2.2.2.2.2.1)
      | z => x_okc mm idx z b p q 2)
    | .invokevirtual idx => x_okc mm idx a b p 0 0 && (match x_m a with
      | some zz => (match q with
        | 9990 => decide (zz.1.cls = "java/lang/String")
        | c => decide (c < 13) && decide (zz.1.cls = (x_cn c).1))
      | none => false)
    | .invokestatic idx => (match a with
      | 9998 => x_tb p (.methodLink mm.1.cls idx arraycopyName) && decide (8 + (nativeFrameWords "java/lang/System" "arraycopy" 5 + 11) ≤ mm.2.2.2.2.2.2.2.1) && decide (1 ≤ mm.2.2.2.2.2.2.1)
      | z => x_okc mm idx z b p q 1)
    | .lookupswitch _ ps => (ps.toList.zip (ps.toList.drop 1)).all (fun (a, next) => a.1 < next.1)
    | .ireturn => (match mm.2.2.2.1 with
      | some .int => true
      | some .boolean => true
      | some .char => true
      | some .byte => true
      | _ => false)
    | .lreturn => decide (mm.2.2.2.1 = some .long)
    | .return_ => decide (mm.2.2.2.1 = none)
    | _ => true
def x_okb (y pc : Nat) (e : x_E) : Bool := match x_m y with
  | some mm => decide (decode mm.2.1 pc = .ok (e.1, e.2.1)) && x_okz mm e
  | none => false
def x_okl (y : Nat) : Nat → List (Option x_E) → Bool
  | _, [] => true
  | pc, some e :: l => x_okb y pc e && x_okl y (pc + 1) l
  | pc, none :: l => x_okl y (pc + 1) l
def x_okj (y j : Nat) : Bool := match x_co y with
  | some c => (match x_at c j with
    | some l => x_okl y (32 * j) l
    | none => true)
  | none => true
/-- the places of a code's rows -/
def x_okq (y : Nat) (js : List Nat) : Bool := match x_co y with
  | some c => decide (js = List.range c.length)
  | none => true
theorem x_okq_s {y : Nat} {js : List Nat} (h : x_okq y js = true) (hj : ∀ j ∈ js, x_okj y j = true) (j : Nat) : x_okj y j = true := by
  by_cases hm : j ∈ js
  · exact hj j hm
  · unfold x_okq at h
    unfold x_okj
    split at h
    · rename_i c hc
      try rw [hc]
      simp only [decide_eq_true_eq] at h
      rw [h, List.mem_range] at hm
      simp only [x_at_eq, List.getElem?_eq_none (Nat.not_lt.mp hm)]
    · rename_i hc
      first | rfl | simp only [hc]
def x_okM (z : Nat) : Bool := match x_m z with
  | some zz => x_tb zz.2.2.2.2.2.2.2.2.1 (.code zz.1 zz.2.1 zz.2.2.1 zz.2.2.2.1) && x_tb zz.2.2.2.2.2.2.2.2.2.2.2 (.initialized zz.1.cls) &&
    decide (zz.1.cls ≠ "java/lang/invoke/MethodHandle" ∧ zz.1.cls ≠ "java/lang/invoke/VarHandle" ∧ (parseMethodDescriptor zz.1.desc).map (fun d => d.parameters.length) = some zz.2.2.2.2.2.1) && plainName zz.1.cls &&
    (match zz.2.2.2.2.1 % 4 with
      | 0 => x_tb zz.2.2.2.2.2.2.2.2.2.1 (.instanceMethod zz.1) && x_tb zz.2.2.2.2.2.2.2.2.2.2.1 (.selects zz.1.cls zz.1 zz.1)
      | 1 => x_tb zz.2.2.2.2.2.2.2.2.2.1 (.static zz.1)
      | _ => x_tb zz.2.2.2.2.2.2.2.2.2.1 (.instanceMethod zz.1) && decide (zz.1.name = "<init>") && decide (zz.2.2.2.1 = none))
  | none => true
