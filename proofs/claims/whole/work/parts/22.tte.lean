section
section WT
variable {xs : Nat → Int32} {xl y pc : Nat} {L : x_L} {M : x_J} {S : List Value} {I J : w_I} {b : Bool} {Q : Option Value → w_I → w_I → Bool → Prop}
theorem w_obe {o c : Nat} (ho : w_ob o c = true) : x_ob (w_K, w_h I, w_hj J, w_A b) o c = true := ho
theorem w_gfi {b1 p1 q1 q idx a1 o : Nat} {k' : Int} (hi : x_ins y pc = some (.getfield idx, 3, a1, b1, p1, q1)) (hp : pc + 3 = q) (hq : Nat.beq q1 1 = false) (hc : Nat.ble a1 9000 = true) (ho : w_ob o a1 = true) (hk : ((b1 : Nat) : Int) = k') {v : Int} (hv : I o k' = v) (t : w_T xs xl y q L M (w_i v :: S) I J b Q) : w_T xs xl y pc L M (.ref o :: S) I J b Q := by
  subst hp hk hv
  refine w_go hi rfl ?_ t
  have hc := Nat.le_of_ble_eq_true hc
  show x_gf y pc L M (.ref o :: S) (w_K, w_h I, w_hj J, w_A b) a1 b1 q1 = _
  unfold x_gf x_r1
  dsimp only
  split
  · omega
  · omega
  · rw [w_obe ho]
    dsimp only
    split
    · cases hq
    · rfl
theorem w_gfr {b1 p1 q idx a1 o j : Nat} (hi : x_ins y pc = some (.getfield idx, 3, a1, b1, p1, 1)) (hp : pc + 3 = q) (hc : Nat.ble a1 9000 = true) (ho : w_ob o a1 = true) (hr : w_A b o b1 = some j) (t : w_T xs xl y q L M (.ref j :: S) I J b Q) : w_T xs xl y pc L M (.ref o :: S) I J b Q := by
  subst hp
  refine w_go hi rfl ?_ t
  have hc := Nat.le_of_ble_eq_true hc
  show x_gf y pc L M (.ref o :: S) (w_K, w_h I, w_hj J, w_A b) a1 b1 1 = _
  unfold x_gf x_r1
  dsimp only
  split
  · omega
  · omega
  · rw [w_obe ho]
    dsimp only
    rw [hr]
    rfl
theorem w_pfi {b1 p1 q idx a1 o : Nat} {k' v : Int} (hi : x_ins y pc = some (.putfield idx, 3, a1, b1, p1, 0)) (hp : pc + 3 = q) (ho : w_ob o a1 = true) (hk : ((b1 : Nat) : Int) = k') (t : w_T xs xl y q L M S (w_U I o k' v) J b Q) : w_T xs xl y pc L M (w_i v :: .ref o :: S) I J b Q := by
  subst hp
  refine w_go hi rfl ?_ t
  show (match x_ob (w_K, w_h I, w_hj J, w_A b) o a1 with | true => x_go y (pc + 3) L M S (w_K, x_u2 (w_h I) o b1 (Int32.ofInt v), w_hj J, w_A b) | false => none) = _
  rw [w_obe ho, w_hUk hk]
  rfl
theorem w_pfz {b1 p1 q idx a1 o : Nat} {k' v : Int} (hi : x_ins y pc = some (.putfield idx, 3, a1, b1, p1, 2)) (hp : pc + 3 = q) (ho : w_ob o a1 = true) (hk : ((b1 : Nat) : Int) = k') (hv : v = 0 ∨ v = 1) (t : w_T xs xl y q L M S (w_U I o k' v) J b Q) : w_T xs xl y pc L M (w_i v :: .ref o :: S) I J b Q := by
  subst hp
  refine w_go hi rfl ?_ t
  show (match x_ob (w_K, w_h I, w_hj J, w_A b) o a1 with | true => (if Int32.ofInt v = 0 ∨ Int32.ofInt v = 1 then x_go y (pc + 3) L M S (w_K, x_u2 (w_h I) o b1 (Int32.ofInt v), w_hj J, w_A b) else none) | false => none) = _
  rw [w_obe ho, w_hUk hk]
  rcases hv with rfl | rfl <;> rfl
theorem w_are {a : Nat} {r : Option (Nat × Nat)} (ha : w_ar a = r) : x_ar (w_K, w_h I, w_hj J, w_A b) a = r := ha
theorem w_inq {e : Int} {n : Nat} {A : Option x_O} (h : 0 ≤ e ∧ e < n) (hn : Nat.ble n 100000 = true) : x_in? (Int32.ofInt e) n A = A := by
  obtain ⟨h1, h2, h3⟩ := w_tog h.1 h.2 hn
  unfold x_in?
  rw [if_neg]
  rw [h1]
  intro h
  rcases h with h | h
  · exact h2 h
  · omega
theorem w_tn {e : Int} {n : Nat} (h : 0 ≤ e ∧ e < n) (hn : Nat.ble n 100000 = true) : (Int32.ofInt e).toNatClampNeg = e.toNat := (w_tog h.1 h.2 hn).1
theorem w_hI {e : Int} {a : Nat} (h : 0 ≤ e) : w_h I a e.toNat = Int32.ofInt (I a e) := by
  unfold w_h
  rw [show ((e.toNat : Nat) : Int) = e by omega]
theorem w_hJ {e : Int} {a : Nat} (h : 0 ≤ e) : w_hj J a e.toNat = Int64.ofInt (J a e) := by
  unfold w_hj
  rw [show ((e.toNat : Nat) : Int) = e by omega]
theorem w_iald {a1 b1 p1 q1 : Nat} {q : Nat} {a n : Nat} {e : Int} (hi : x_ins y pc = some (.iaload, 1, a1, b1, p1, q1)) (hp : pc + 1 = q) (hs : Nat.ble a 90000 = true) (ha : w_ar a = some (0, n)) (hn : Nat.ble n 100000 = true) {v : Int} (hv : I a e = v) (he : 0 ≤ e ∧ e < n) (t : w_T xs xl y q L M (w_i v :: S) I J b Q) : w_T xs xl y pc L M (w_i e :: .ref a :: S) I J b Q := by
  subst hp
  subst hv
  refine w_go hi rfl ?_ t
  have hlt : a ≠ 100000 ∧ a ≠ 100002 := by
    have := Nat.le_of_ble_eq_true hs
    omega
  show x_iald xs xl y pc L M (w_i e :: .ref a :: S) (w_K, w_h I, w_hj J, w_A b) = _
  unfold x_iald x_ir
  try dsimp only
  split
  · exact absurd rfl hlt.1
  · rw [w_are ha]
    refine (w_inq he hn).trans ?_
    rw [w_tn he hn, w_hI he.1]
    rfl
theorem w_bald1 {a1 b1 p1 q1 : Nat} {q : Nat} {a n : Nat} {e : Int} (hi : x_ins y pc = some (.baload, 1, a1, b1, p1, q1)) (hp : pc + 1 = q) (hs : Nat.ble a 90000 = true) (ha : w_ar a = some (1, n)) (hn : Nat.ble n 100000 = true) {v : Int} (hv : I a e = v) (he : 0 ≤ e ∧ e < n) (t : w_T xs xl y q L M (w_i v :: S) I J b Q) : w_T xs xl y pc L M (w_i e :: .ref a :: S) I J b Q := by
  subst hp
  subst hv
  refine w_go hi rfl ?_ t
  have hlt : a ≠ 100000 ∧ a ≠ 100002 := by
    have := Nat.le_of_ble_eq_true hs
    omega
  show x_bald y pc L M (w_i e :: .ref a :: S) (w_K, w_h I, w_hj J, w_A b) = _
  unfold x_bald x_ir
  try dsimp only
  split
  · exact absurd rfl hlt.2
  · rw [w_are ha]
    refine (w_inq he hn).trans ?_
    rw [w_tn he hn, w_hI he.1]
    rfl
theorem w_bald2 {a1 b1 p1 q1 : Nat} {q : Nat} {a n : Nat} {e : Int} (hi : x_ins y pc = some (.baload, 1, a1, b1, p1, q1)) (hp : pc + 1 = q) (hs : Nat.ble a 90000 = true) (ha : w_ar a = some (2, n)) (hn : Nat.ble n 100000 = true) {v : Int} (hv : I a e = v) (he : 0 ≤ e ∧ e < n) (t : w_T xs xl y q L M (w_i v :: S) I J b Q) : w_T xs xl y pc L M (w_i e :: .ref a :: S) I J b Q := by
  subst hp
  subst hv
  refine w_go hi rfl ?_ t
  have hlt : a ≠ 100000 ∧ a ≠ 100002 := by
    have := Nat.le_of_ble_eq_true hs
    omega
  show x_bald y pc L M (w_i e :: .ref a :: S) (w_K, w_h I, w_hj J, w_A b) = _
  unfold x_bald x_ir
  try dsimp only
  split
  · exact absurd rfl hlt.2
  · rw [w_are ha]
    refine (w_inq he hn).trans ?_
    rw [w_tn he hn, w_hI he.1]
    rfl
theorem w_jald {a1 b1 p1 q1 : Nat} {q : Nat} {a n : Nat} {e : Int} (hi : x_ins y pc = some (.laload, 1, a1, b1, p1, q1)) (hp : pc + 1 = q) (hs : Nat.ble a 90000 = true) (ha : w_ar a = some (3, n)) (hn : Nat.ble n 100000 = true) {v : Int} (hv : J a e = v) (he : 0 ≤ e ∧ e < n) (t : w_T xs xl y q L M (w_l v :: S) I J b Q) : w_T xs xl y pc L M (w_i e :: .ref a :: S) I J b Q := by
  subst hp
  subst hv
  refine w_go hi rfl ?_ t
  have hlt : a ≠ 100000 ∧ a ≠ 100002 := by
    have := Nat.le_of_ble_eq_true hs
    omega
  show x_jald y pc L M (w_i e :: .ref a :: S) (w_K, w_h I, w_hj J, w_A b) = _
  unfold x_jald x_ir
  try dsimp only
  rw [w_are ha]
  refine (w_inq he hn).trans ?_
  rw [w_tn he hn, w_hJ he.1]
  rfl
def w_s (xs : Nat → Int32) (e : Int) : Int := (xs e.toNat).toInt
theorem w_sald {a1 b1 p1 q1 q : Nat} {e : Int} (hi : x_ins y pc = some (.iaload, 1, a1, b1, p1, q1)) (hp : pc + 1 = q) (he : 0 ≤ e ∧ e < (xl : Int)) (hx : xl ≤ 100000) (t : w_T xs xl y q L M (w_i (w_s xs e) :: S) I J b Q) : w_T xs xl y pc L M (w_i e :: .ref 100000 :: S) I J b Q := by
  subst hp
  refine w_go hi rfl ?_ t
  show x_in? (Int32.ofInt e) xl (x_go y (pc + 1) L M (.int (xs (Int32.ofInt e).toNatClampNeg) :: S) _) = _
  rw [w_inq he (Nat.ble_eq_true_of_le hx), w_tn he (Nat.ble_eq_true_of_le hx)]
  show x_go y (pc + 1) L M (.int (xs e.toNat) :: S) _ = x_go y (pc + 1) L M (w_i (w_s xs e) :: S) _
  unfold w_i w_s
  rw [Int32.ofInt_toInt]
theorem w_slen {a1 b1 p1 q1 q : Nat} (hi : x_ins y pc = some (.arraylength, 1, a1, b1, p1, q1)) (hp : pc + 1 = q) (t : w_T xs xl y q L M (w_i (xl : Int) :: S) I J b Q) : w_T xs xl y pc L M (.ref 100000 :: S) I J b Q := by
  subst hp
  refine w_go hi rfl ?_ t
  show x_go y (pc + 1) L M (.int (Int32.ofNat xl) :: S) _ = _
  rw [← Int32.ofInt_eq_ofNat]
  rfl
theorem w_aald {a1 b1 p1 q1 : Nat} {q : Nat} {a n j : Nat} {e : Int} (hi : x_ins y pc = some (.aaload, 1, a1, b1, p1, q1)) (hp : pc + 1 = q) (ha : w_ar a = some (4, n)) (hn : Nat.ble n 100000 = true) (he : 0 ≤ e ∧ e < n) (hr : w_A b a e.toNat = some j) (t : w_T xs xl y q L M (.ref j :: S) I J b Q) : w_T xs xl y pc L M (w_i e :: .ref a :: S) I J b Q := by
  subst hp
  refine w_go hi rfl ?_ t
  show x_aald y pc L M (w_i e :: .ref a :: S) (w_K, w_h I, w_hj J, w_A b) = _
  unfold x_aald x_ir
  try dsimp only
  rw [w_are ha]
  refine (w_inq he hn).trans ?_
  rw [w_tn he hn, hr]
  rfl
theorem w_iast {a1 b1 p1 q1 : Nat} {q : Nat} {a n : Nat} {e v : Int} (hi : x_ins y pc = some (.iastore, 1, a1, b1, p1, q1)) (hp : pc + 1 = q) (hs : Nat.ble a 90000 = true) (ha : w_ar a = some (0, n)) (hn : Nat.ble n 100000 = true)  (he : 0 ≤ e ∧ e < n) (t : w_T xs xl y q L M S (w_U I a e v) J b Q) : w_T xs xl y pc L M (w_i v :: w_i e :: .ref a :: S) I J b Q := by
  subst hp
  refine w_go hi rfl ?_ t
  have hlt : a ≠ 100000 ∧ a ≠ 100002 := by
    have := Nat.le_of_ble_eq_true hs
    omega
  show x_iast y pc L M (w_i v :: w_i e :: .ref a :: S) (w_K, w_h I, w_hj J, w_A b) = _
  unfold x_iast x_iir
  try dsimp only
  rw [w_are ha]
  refine (w_inq he hn).trans ?_
  rw [w_tn he hn]
  rw [w_hU he.1]
  rfl
theorem w_jast {a1 b1 p1 q1 : Nat} {q : Nat} {a n : Nat} {e v : Int} (hi : x_ins y pc = some (.lastore, 1, a1, b1, p1, q1)) (hp : pc + 1 = q) (hs : Nat.ble a 90000 = true) (ha : w_ar a = some (3, n)) (hn : Nat.ble n 100000 = true)  (he : 0 ≤ e ∧ e < n) (t : w_T xs xl y q L M S I (w_U J a e v) b Q) : w_T xs xl y pc L M (w_l v :: w_i e :: .ref a :: S) I J b Q := by
  subst hp
  refine w_go hi rfl ?_ t
  have hlt : a ≠ 100000 ∧ a ≠ 100002 := by
    have := Nat.le_of_ble_eq_true hs
    omega
  show x_jast y pc L M (w_l v :: w_i e :: .ref a :: S) (w_K, w_h I, w_hj J, w_A b) = _
  unfold x_jast x_lir
  try dsimp only
  rw [w_are ha]
  refine (w_inq he hn).trans ?_
  rw [w_tn he hn]
  rw [w_hUj he.1]
  rfl
theorem w_bast1 {a1 b1 p1 q1 : Nat} {q : Nat} {a n : Nat} {e v : Int} (hi : x_ins y pc = some (.bastore, 1, a1, b1, p1, q1)) (hp : pc + 1 = q) (hs : Nat.ble a 90000 = true) (ha : w_ar a = some (1, n)) (hn : Nat.ble n 100000 = true)  (he : 0 ≤ e ∧ e < n) (t : w_T xs xl y q L M S (w_U I a e (w_by v)) J b Q) : w_T xs xl y pc L M (w_i v :: w_i e :: .ref a :: S) I J b Q := by
  subst hp
  refine w_go hi rfl ?_ t
  have hlt : a ≠ 100000 ∧ a ≠ 100002 := by
    have := Nat.le_of_ble_eq_true hs
    omega
  show x_bast y pc L M (w_i v :: w_i e :: .ref a :: S) (w_K, w_h I, w_hj J, w_A b) = _
  unfold x_bast x_iir
  try dsimp only
  rw [w_are ha]
  refine (w_inq he hn).trans ?_
  rw [w_tn he hn]
  rw [show vp_nar .byte (Int32.ofInt v) = Int32.ofInt (w_by v) by
    show (Int32.ofInt v).toInt8.toInt32 = _
    unfold w_by
    rw [Int32.ofInt_int8ToInt]]
  rw [w_hU he.1]
  rfl
theorem w_bast2 {a1 b1 p1 q1 : Nat} {q : Nat} {a n : Nat} {e v : Int} (hi : x_ins y pc = some (.bastore, 1, a1, b1, p1, q1)) (hp : pc + 1 = q) (hs : Nat.ble a 90000 = true) (ha : w_ar a = some (2, n)) (hn : Nat.ble n 100000 = true) (hv : v = 0 ∨ v = 1) (he : 0 ≤ e ∧ e < n) (t : w_T xs xl y q L M S (w_U I a e v) J b Q) : w_T xs xl y pc L M (w_i v :: w_i e :: .ref a :: S) I J b Q := by
  subst hp
  refine w_go hi rfl ?_ t
  have hlt : a ≠ 100000 ∧ a ≠ 100002 := by
    have := Nat.le_of_ble_eq_true hs
    omega
  show x_bast y pc L M (w_i v :: w_i e :: .ref a :: S) (w_K, w_h I, w_hj J, w_A b) = _
  unfold x_bast x_iir
  try dsimp only
  rw [w_are ha]
  refine (w_inq he hn).trans ?_
  rw [w_tn he hn]
  rw [show vp_nar .boolean (Int32.ofInt v) = Int32.ofInt v by
    rcases hv with rfl | rfl <;> rfl]
  rw [w_hU he.1]
  rfl
end WT
end
