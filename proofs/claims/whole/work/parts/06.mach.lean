/-! the abstract machine: cells are numbered as they are made; a heap is its kinds, its ints, its longs, its references -/
abbrev x_K : Type := Nat ⊕ (Nat × Nat)
abbrev x_H : Type := List x_K × (Nat → Nat → Int32) × (Nat → Nat → Int64) × (Nat → Nat → Option Nat)
abbrev x_L : Type := List (Option Value)
abbrev x_J : Type := List (Option Int64)
abbrev x_F : Type := Nat × Nat × x_L × x_J × List Value
abbrev x_O : Type := (x_F × x_H) ⊕ ((Option Value × x_H) ⊕ ((Nat × List Value) × x_F × x_H))
def x_go (y pc : Nat) (L : x_L) (M : x_J) (S : List Value) (h : x_H) : Option x_O := some (.inl ((y, pc, L, M, S), h))
def x_u2 {α : Type} (f : Nat → Nat → α) (i k : Nat) (x : α) : Nat → Nat → α := fun i' => if i' = i then (fun k' => if k' = k then x else f i k') else f i'
def x_u1 {α : Type} (f : Nat → Nat → α) (i : Nat) (g : Nat → α) : Nat → Nat → α := fun i' => if i' = i then g else f i'
def x_set {α : Type} : List α → Nat → α → List α
  | [], _, _ => []
  | _ :: l, 0, b => b :: l
  | a :: l, n + 1, b => a :: x_set l n b
theorem x_set_eq {α : Type} : ∀ (l : List α) (n : Nat) (b : α), x_set l n b = l.set n b
  | [], n, b => by simp [x_set]
  | a :: l, 0, b => by simp [x_set]
  | a :: l, n + 1, b => by simp only [x_set, List.set_cons_succ]; rw [x_set_eq l n b]
/-- the text of the one String constant -/
def x_wb : List Int32 := [104, 111, 117, 115, 101, 32, 108, 101, 102, 116, 32, 114, 105, 103, 104, 116, 32, 115, 116, 101, 112, 32, 108, 97, 110, 101, 32, 98, 121, 32, 101, 108, 100, 101, 115, 116, 32, 109, 101, 97, 110, 32, 99, 111, 115, 116, 32, 119, 111, 114, 116, 104, 32, 99, 111, 109, 101, 115, 32, 100, 105, 101, 115, 32, 102, 111, 114, 103, 105, 118, 101, 32, 105, 102, 32, 111, 114, 32, 97, 110, 100, 32, 110, 111, 116, 32, 97, 103, 101, 32, 115, 105, 122, 101, 32, 108, 97, 109, 101, 32, 109, 111, 110, 116, 104, 32, 102, 114, 111, 109, 32, 116, 111, 32, 102, 97, 114, 32, 103, 97, 112, 32, 108, 111, 118, 101, 100, 32, 103, 111, 111, 100, 32]
def x_wl : Nat := 133
-- 100000: the script; 100001: the String; 100002: its bytes; 100003: what Preconditions holds
abbrev x_SC : Nat := 100000
abbrev x_ST : Nat := 100001
abbrev x_SV : Nat := 100002
abbrev x_SF : Nat := 100003
def x_i1 : List Value → Option (Int32 × List Value)
  | .int a :: r => some (a, r)
  | _ => none
def x_ii : List Value → Option (Int32 × Int32 × List Value)
  | .int b :: .int a :: r => some (a, b, r)
  | _ => none
def x_l1 : List Value → Option (Int64 × List Value)
  | .long a :: r => some (a, r)
  | _ => none
def x_ll : List Value → Option (Int64 × Int64 × List Value)
  | .long b :: .long a :: r => some (a, b, r)
  | _ => none
def x_r1 : List Value → Option (Nat × List Value)
  | .ref a :: r => some (a, r)
  | _ => none
def x_ir : List Value → Option (Int32 × Nat × List Value)
  | .int i :: .ref a :: r => some (i, a, r)
  | _ => none
def x_rr : List Value → Option (Nat × Nat × List Value)
  | .ref i :: .ref a :: r => some (i, a, r)
  | _ => none
def x_iir : List Value → Option (Int32 × Int32 × Nat × List Value)
  | .int x :: .int i :: .ref a :: r => some (x, i, a, r)
  | _ => none
def x_lir : List Value → Option (Int64 × Int32 × Nat × List Value)
  | .long x :: .int i :: .ref a :: r => some (x, i, a, r)
  | _ => none
def x_rir : List Value → Option (Nat × Int32 × Nat × List Value)
  | .ref x :: .int i :: .ref a :: r => some (x, i, a, r)
  | _ => none
def x_cpy : List Value → Option (Int32 × Int32 × Nat × Int32 × Nat × List Value)
  | .int n :: .int dp :: .ref a :: .int sp :: .ref a0 :: r => some (n, dp, a, sp, a0, r)
  | _ => none
theorem x_i1_s {S : List Value} {a : Int32} {r : List Value} (h : x_i1 S = some (a, r)) : S = .int a :: r := by unfold x_i1 at h; split at h <;> simp_all
theorem x_ii_s {S : List Value} {a b : Int32} {r : List Value} (h : x_ii S = some (a, b, r)) : S = .int b :: .int a :: r := by unfold x_ii at h; split at h <;> simp_all
theorem x_l1_s {S : List Value} {a : Int64} {r : List Value} (h : x_l1 S = some (a, r)) : S = .long a :: r := by unfold x_l1 at h; split at h <;> simp_all
theorem x_ll_s {S : List Value} {a b : Int64} {r : List Value} (h : x_ll S = some (a, b, r)) : S = .long b :: .long a :: r := by unfold x_ll at h; split at h <;> simp_all
theorem x_r1_s {S : List Value} {a : Nat} {r : List Value} (h : x_r1 S = some (a, r)) : S = .ref a :: r := by unfold x_r1 at h; split at h <;> simp_all
theorem x_ir_s {S : List Value} {i : Int32} {a : Nat} {r : List Value} (h : x_ir S = some (i, a, r)) : S = .int i :: .ref a :: r := by unfold x_ir at h; split at h <;> simp_all
theorem x_rr_s {S : List Value} {i : Nat} {a : Nat} {r : List Value} (h : x_rr S = some (i, a, r)) : S = .ref i :: .ref a :: r := by unfold x_rr at h; split at h <;> simp_all
theorem x_iir_s {S : List Value} {x i : Int32} {a : Nat} {r : List Value} (h : x_iir S = some (x, i, a, r)) : S = .int x :: .int i :: .ref a :: r := by unfold x_iir at h; split at h <;> simp_all
theorem x_lir_s {S : List Value} {x : Int64} {i : Int32} {a : Nat} {r : List Value} (h : x_lir S = some (x, i, a, r)) : S = .long x :: .int i :: .ref a :: r := by unfold x_lir at h; split at h <;> simp_all
theorem x_rir_s {S : List Value} {x : Nat} {i : Int32} {a : Nat} {r : List Value} (h : x_rir S = some (x, i, a, r)) : S = .ref x :: .int i :: .ref a :: r := by unfold x_rir at h; split at h <;> simp_all
theorem x_cpy_s {S : List Value} {n dp sp : Int32} {a a0 : Nat} {r : List Value} (h : x_cpy S = some (n, dp, a, sp, a0, r)) : S = .int n :: .int dp :: .ref a :: .int sp :: .ref a0 :: r := by unfold x_cpy at h; split at h <;> simp_all
/-- variables of a frame -/
def x_lg (L : x_L) (i : Nat) : Option Value := match x_at L i with
  | some (some (.int x)) => some (.int x)
  | some (some (.ref x)) => some (.ref x)
  | _ => none
def x_jg (M : x_J) (i : Nat) : Option Int64 := match x_at M i with
  | some (some v) => some v
  | _ => none
def x_s1 (L : x_L) (i : Nat) (v : Value) : x_L := x_set L i (some v)
def x_m1 (M : x_J) (i : Nat) : x_J := x_set (x_set M i none) (i - 1) none
def x_s2 (L : x_L) (i : Nat) : x_L := x_set (x_set L i none) (i + 1) none
def x_m2 (M : x_J) (i : Nat) (x : Int64) : x_J := x_set (x_set (x_set M (i - 1) none) (i + 1) none) i (some x)
def x_eL : List Value → x_L
  | [] => []
  | .long _ :: r => none :: none :: x_eL r
  | .double _ :: r => none :: none :: x_eL r
  | v :: r => some v :: x_eL r
def x_eM : List Value → x_J
  | [] => []
  | .long x :: r => some x :: none :: x_eM r
  | .double _ :: r => none :: none :: x_eM r
  | _ :: r => none :: x_eM r
def x_pad {α : Type} : Nat → List (Option α) → List (Option α)
  | 0, _ => []
  | n + 1, [] => none :: x_pad n []
  | n + 1, a :: l => a :: x_pad n l
/-- a jump's target -/
def x_tg (pc : Nat) (off : Int) : Option Nat := if 0 ≤ (pc : Int) + off then some ((pc : Int) + off).toNat else none
def x_br {α : Type} (c : ClassFile.Cond) (x y : Int32) (A B : α) : α := match c with
  | .eq => if x = y then A else B
  | .ne => if ¬ x = y then A else B
  | .lt => if x < y then A else B
  | .ge => if y ≤ x then A else B
  | .gt => if y < x then A else B
  | .le => if x ≤ y then A else B
/-- may this int be given back by a method of that type, or be put into a field of it -/
def x_nok (t : Option FieldType) (v : Int32) : Bool := match t with
  | some .int => true
  | some .boolean => decide (v = 0) || decide (v = 1)
  | some ty => decide (narrow ty (.int v) = .int v)
  | none => false
def x_rv (o : Option Nat) : Value := match o with
  | some j => .ref j
  | none => .null
/-- the kinds of the heap -/
def x_kd (h : x_H) (a : Nat) : Option x_K := x_at h.1 a
def x_ob (h : x_H) (a c : Nat) : Bool := match x_kd h a with
  | some (.inl c') => c' == c
  | _ => false
/-- an array's type and length -/
def x_ar (h : x_H) (a : Nat) : Option (Nat × Nat) := match x_kd h a with
  | some (.inr q) => some q
  | _ => none
def x_cat (S : List Value) : Nat := (S.map fun v => v.category).sum
/-- the arguments off the stack: n of them, the first one deepest -/
def x_pop : Nat → List Value → List Value → Option (List Value × List Value)
  | 0, acc, S => some (acc, S)
  | n + 1, acc, v :: S => x_pop n (v :: acc) S
  | _ + 1, _, [] => none
