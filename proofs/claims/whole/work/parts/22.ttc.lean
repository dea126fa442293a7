section
section WT
variable {xs : Nat → Int32} {xl y pc : Nat} {L : x_L} {M : x_J} {S : List Value} {I J : w_I} {b : Bool} {Q : Option Value → w_I → w_I → Bool → Prop}
theorem w_iadd {a1 b1 p1 q1 : Nat} {q : Nat} {c d : Int} (hi : x_ins y pc = some (.iadd, 1, a1, b1, p1, q1)) (hp : pc + 1 = q)  (t : w_T xs xl y q L M (w_i (c + d) :: S) I J b Q) : w_T xs xl y pc L M (w_i d :: w_i c :: S) I J b Q := by
  subst hp
  refine w_go hi rfl ?_ t
  show x_go y (pc + 1) L M (.int (Int32.ofInt c + Int32.ofInt d) :: S) _ = _
  rw [← Int32.ofInt_add]
  rfl
theorem w_isub {a1 b1 p1 q1 : Nat} {q : Nat} {c d : Int} (hi : x_ins y pc = some (.isub, 1, a1, b1, p1, q1)) (hp : pc + 1 = q)  (t : w_T xs xl y q L M (w_i (c - d) :: S) I J b Q) : w_T xs xl y pc L M (w_i d :: w_i c :: S) I J b Q := by
  subst hp
  refine w_go hi rfl ?_ t
  show x_go y (pc + 1) L M (.int (Int32.ofInt c - Int32.ofInt d) :: S) _ = _
  rw [← Int32.ofInt_sub]
  rfl
theorem w_imul {a1 b1 p1 q1 : Nat} {q : Nat} {c d : Int} (hi : x_ins y pc = some (.imul, 1, a1, b1, p1, q1)) (hp : pc + 1 = q)  (t : w_T xs xl y q L M (w_i (c * d) :: S) I J b Q) : w_T xs xl y pc L M (w_i d :: w_i c :: S) I J b Q := by
  subst hp
  refine w_go hi rfl ?_ t
  show x_go y (pc + 1) L M (.int (Int32.ofInt c * Int32.ofInt d) :: S) _ = _
  rw [← Int32.ofInt_mul]
  rfl
theorem w_iand {a1 b1 p1 q1 : Nat} {q : Nat} {c d : Int} (hi : x_ins y pc = some (.iand, 1, a1, b1, p1, q1)) (hp : pc + 1 = q)  (t : w_T xs xl y q L M (w_i (w_and c d) :: S) I J b Q) : w_T xs xl y pc L M (w_i d :: w_i c :: S) I J b Q := by
  subst hp
  refine w_go hi rfl ?_ t
  show x_go y (pc + 1) L M (.int (Int32.ofInt c &&& Int32.ofInt d) :: S) _ = x_go y (pc + 1) L M (w_i (w_and c d) :: S) _
  unfold w_i w_and
  rw [Int32.ofInt_toInt]
theorem w_ior {a1 b1 p1 q1 : Nat} {q : Nat} {c d : Int} (hi : x_ins y pc = some (.ior, 1, a1, b1, p1, q1)) (hp : pc + 1 = q)  (t : w_T xs xl y q L M (w_i (w_or c d) :: S) I J b Q) : w_T xs xl y pc L M (w_i d :: w_i c :: S) I J b Q := by
  subst hp
  refine w_go hi rfl ?_ t
  show x_go y (pc + 1) L M (.int (Int32.ofInt c ||| Int32.ofInt d) :: S) _ = x_go y (pc + 1) L M (w_i (w_or c d) :: S) _
  unfold w_i w_or
  rw [Int32.ofInt_toInt]
theorem w_ixor {a1 b1 p1 q1 : Nat} {q : Nat} {c d : Int} (hi : x_ins y pc = some (.ixor, 1, a1, b1, p1, q1)) (hp : pc + 1 = q)  (t : w_T xs xl y q L M (w_i (w_xor c d) :: S) I J b Q) : w_T xs xl y pc L M (w_i d :: w_i c :: S) I J b Q := by
  subst hp
  refine w_go hi rfl ?_ t
  show x_go y (pc + 1) L M (.int (Int32.ofInt c ^^^ Int32.ofInt d) :: S) _ = x_go y (pc + 1) L M (w_i (w_xor c d) :: S) _
  unfold w_i w_xor
  rw [Int32.ofInt_toInt]
theorem w_ishl {a1 b1 p1 q1 : Nat} {q : Nat} {c d : Int} (hi : x_ins y pc = some (.ishl, 1, a1, b1, p1, q1)) (hp : pc + 1 = q)  (t : w_T xs xl y q L M (w_i (w_shl c d) :: S) I J b Q) : w_T xs xl y pc L M (w_i d :: w_i c :: S) I J b Q := by
  subst hp
  refine w_go hi rfl ?_ t
  show x_go y (pc + 1) L M (.int (Int32.ofInt c <<< (Int32.ofInt d &&& 31)) :: S) _ = x_go y (pc + 1) L M (w_i (w_shl c d) :: S) _
  unfold w_i w_shl
  rw [Int32.ofInt_toInt]
theorem w_ishr {a1 b1 p1 q1 : Nat} {q : Nat} {c d : Int} (hi : x_ins y pc = some (.ishr, 1, a1, b1, p1, q1)) (hp : pc + 1 = q)  (t : w_T xs xl y q L M (w_i (w_shr c d) :: S) I J b Q) : w_T xs xl y pc L M (w_i d :: w_i c :: S) I J b Q := by
  subst hp
  refine w_go hi rfl ?_ t
  show x_go y (pc + 1) L M (.int (Int32.ofInt c >>> (Int32.ofInt d &&& 31)) :: S) _ = x_go y (pc + 1) L M (w_i (w_shr c d) :: S) _
  unfold w_i w_shr
  rw [Int32.ofInt_toInt]
theorem w_iushr {a1 b1 p1 q1 : Nat} {q : Nat} {c d : Int} (hi : x_ins y pc = some (.iushr, 1, a1, b1, p1, q1)) (hp : pc + 1 = q)  (t : w_T xs xl y q L M (w_i (w_ush c d) :: S) I J b Q) : w_T xs xl y pc L M (w_i d :: w_i c :: S) I J b Q := by
  subst hp
  refine w_go hi rfl ?_ t
  show x_go y (pc + 1) L M (.int (((Int32.ofInt c).toUInt32 >>> ((Int32.ofInt d).toUInt32 &&& Int32.toUInt32 31)).toInt32) :: S) _ = x_go y (pc + 1) L M (w_i (w_ush c d) :: S) _
  unfold w_i w_ush
  rw [Int32.ofInt_toInt]
end WT
end
