section
section WT
variable {xs : Nat → Int32} {xl y pc : Nat} {L : x_L} {M : x_J} {S : List Value} {I J : w_I} {b : Bool} {Q : Option Value → w_I → w_I → Bool → Prop}
theorem w_copy {b1 p1 q1 q idx a a0 n1 n0 : Nat} {n dp sp : Int} (hi : x_ins y pc = some (.invokestatic idx, 3, 9998, b1, p1, q1)) (hp : pc + 3 = q) (ha : w_ar a = some (0, n1)) (ha0 : w_ar a0 = some (0, n0)) (hn1 : Nat.ble n1 100000 = true) (hn0 : Nat.ble n0 100000 = true) (hc : Nat.ble (x_cat S) 8 = true) (hh : 0 ≤ sp ∧ 0 ≤ dp ∧ 0 ≤ n ∧ sp + n ≤ n0 ∧ dp + n ≤ n1) (t : w_T xs xl y q L M S (w_cp I a a0 sp dp n) J b Q) : w_T xs xl y pc L M (w_i n :: w_i dp :: .ref a :: w_i sp :: .ref a0 :: S) I J b Q := by
  subst hp
  refine w_go hi rfl ?_ t
  have hn1 := Nat.le_of_ble_eq_true hn1
  have hn0 := Nat.le_of_ble_eq_true hn0
  have hc := Nat.le_of_ble_eq_true hc
  obtain ⟨h1, h2, h3, h4, h5⟩ := hh
  have i1 : w_in sp := ⟨by omega, by omega⟩
  have i2 : w_in dp := ⟨by omega, by omega⟩
  have i3 : w_in n := ⟨by omega, by omega⟩
  show x_copy y pc L M (w_i n :: w_i dp :: .ref a :: w_i sp :: .ref a0 :: S) (w_K, w_h I, w_hj J, w_A b) = _
  unfold x_copy x_cpy
  try dsimp only
  rw [w_are ha, w_are ha0]
  try dsimp only
  have e1 : (Int32.ofInt sp).toNatClampNeg = sp.toNat := by
    show (Int32.ofInt sp).toInt.toNat = _
    rw [w_ti i1]
  have e2 : (Int32.ofInt dp).toNatClampNeg = dp.toNat := by
    show (Int32.ofInt dp).toInt.toNat = _
    rw [w_ti i2]
  have e3 : (Int32.ofInt n).toNatClampNeg = n.toNat := by
    show (Int32.ofInt n).toInt.toNat = _
    rw [w_ti i3]
  rw [e1, e2, e3]
  refine Eq.trans (if_pos ?_) ?_
  rotate_left
  · rw [w_hc h1 h2 h3]; rfl
  · rw [w_z, w_lt i1 w_in0, w_lt i2 w_in0, w_lt i3 w_in0]
    refine ⟨by omega, by omega, by omega, by omega, by omega, hc⟩
theorem w_max {b1 p1 q idx : Nat} {c d : Int} (hi : x_ins y pc = some (.invokestatic idx, 3, 287, b1, p1, 0)) (hp : pc + 3 = q) (hx : Nat.ble (x_cat S) 8 = true) (hc : w_in c) (hd : w_in d) (t : w_T xs xl y q L M (w_i (max c d) :: S) I J b Q) : w_T xs xl y pc L M (w_i d :: w_i c :: S) I J b Q := by
  subst hp
  refine w_go hi rfl ?_ t
  show (if x_cat S ≤ 8 then x_go y (pc + 3) L M (.int (if Int32.ofInt c < Int32.ofInt d then Int32.ofInt d else Int32.ofInt c) :: S) (w_K, w_h I, w_hj J, w_A b) else none) = _
  rw [if_pos (Nat.le_of_ble_eq_true hx)]
  have : (if Int32.ofInt c < Int32.ofInt d then Int32.ofInt d else Int32.ofInt c) = Int32.ofInt (max c d) := by
    by_cases h : Int32.ofInt c < Int32.ofInt d
    · rw [if_pos h]
      rw [w_lt hc hd] at h
      rw [show max c d = d by omega]
    · rw [if_neg h]
      rw [w_lt hc hd] at h
      rw [show max c d = c by omega]
  rw [this]
  rfl
theorem w_min {b1 p1 q idx : Nat} {c d : Int} (hi : x_ins y pc = some (.invokestatic idx, 3, 288, b1, p1, 0)) (hp : pc + 3 = q) (hx : Nat.ble (x_cat S) 8 = true) (hc : w_in c) (hd : w_in d) (t : w_T xs xl y q L M (w_i (min c d) :: S) I J b Q) : w_T xs xl y pc L M (w_i d :: w_i c :: S) I J b Q := by
  subst hp
  refine w_go hi rfl ?_ t
  show (if x_cat S ≤ 8 then x_go y (pc + 3) L M (.int (if Int32.ofInt d < Int32.ofInt c then Int32.ofInt d else Int32.ofInt c) :: S) (w_K, w_h I, w_hj J, w_A b) else none) = _
  rw [if_pos (Nat.le_of_ble_eq_true hx)]
  have : (if Int32.ofInt d < Int32.ofInt c then Int32.ofInt d else Int32.ofInt c) = Int32.ofInt (min c d) := by
    by_cases h : Int32.ofInt d < Int32.ofInt c
    · rw [if_pos h]
      rw [w_lt hd hc] at h
      rw [show min c d = d by omega]
    · rw [if_neg h]
      rw [w_lt hd hc] at h
      rw [show min c d = c by omega]
  rw [this]
  rfl
theorem w_abs {b1 p1 q idx : Nat} {c : Int} (hi : x_ins y pc = some (.invokestatic idx, 3, 286, b1, p1, 0)) (hp : pc + 3 = q) (hx : Nat.ble (x_cat S) 8 = true) (hc : w_in c) (t : w_T xs xl y q L M (w_i (if 0 ≤ c then c else -c) :: S) I J b Q) : w_T xs xl y pc L M (w_i c :: S) I J b Q := by
  subst hp
  refine w_go hi rfl ?_ t
  show (if x_cat S ≤ 8 then x_go y (pc + 3) L M (.int (if 0 ≤ Int32.ofInt c then Int32.ofInt c else 0 - Int32.ofInt c) :: S) (w_K, w_h I, w_hj J, w_A b) else none) = _
  rw [if_pos (Nat.le_of_ble_eq_true hx)]
  have : (if 0 ≤ Int32.ofInt c then Int32.ofInt c else 0 - Int32.ofInt c) = Int32.ofInt (if 0 ≤ c then c else -c) := by
    rw [w_z]
    by_cases h : 0 ≤ c
    · rw [if_pos ((w_le w_in0 hc).mpr h), if_pos h]
    · rw [if_neg (fun g => h ((w_le w_in0 hc).mp g)), if_neg h, ← Int32.ofInt_sub, Int.zero_sub]
  rw [this]
  rfl
theorem w_call {b1 p1 q1 q idx z : Nat} {As r : List Value} (hi : x_ins y pc = some (.invokestatic idx, 3, z, b1, p1, q1)) (hz : (Nat.beq z 9998 || (Nat.ble 286 z && Nat.ble z 288)) = false) (hp : pc + 3 = q) (ha : x_pop b1 [] S = some (As, r)) (hx : Nat.ble (x_cat r) 8 = true)
    (t : w_C xs xl z As I J b (fun v I J b => w_T xs xl y q L M (w_pv v r) I J b Q)) : w_T xs xl y pc L M S I J b Q := by
  subst hp
  refine w_cl hi rfl ?_ t
  have h1 : z ≠ 9998 := fun h => by subst h; cases hz
  have h2 : z ≠ 286 := fun h => by subst h; cases hz
  have h3 : z ≠ 287 := fun h => by subst h; cases hz
  have h4 : z ≠ 288 := fun h => by subst h; cases hz
  unfold x_op
  dsimp only
  split
  · exact absurd rfl h1
  · exact absurd rfl h2
  · exact absurd rfl h3
  · exact absurd rfl h4
  · unfold x_call
    rw [ha]
    dsimp only
    rw [if_pos (Nat.le_of_ble_eq_true hx)]
theorem w_callv {b1 p1 q1 q idx z o : Nat} {As r : List Value} (hi : x_ins y pc = some (.invokevirtual idx, 3, z, b1, p1, q1)) (hp : pc + 3 = q) (ha : x_pop b1 [] S = some (As, .ref o :: r)) (hq : Nat.beq q1 9990 = false) (ho : w_ob o q1 = true) (hx : Nat.ble (x_cat r) 8 = true)
    (t : w_C xs xl z (.ref o :: As) I J b (fun v I J b => w_T xs xl y q L M (w_pv v r) I J b Q)) : w_T xs xl y pc L M S I J b Q := by
  subst hp
  refine w_cl hi rfl ?_ t
  have h1 : q1 ≠ 9990 := fun h => by subst h; cases hq
  show x_calld y pc L M S _ z b1 q1 = _
  unfold x_calld
  rw [ha]
  dsimp only
  split
  · rw [if_pos (Nat.le_of_ble_eq_true hx)]
  · rename_i heq
    split at heq
    · exact absurd rfl h1
    · rw [w_obe ho] at heq
      cases heq
theorem w_callS {b1 p1 q idx z : Nat} {As r : List Value} (hi : x_ins y pc = some (.invokevirtual idx, 3, z, b1, p1, 9990)) (hp : pc + 3 = q) (ha : x_pop b1 [] S = some (As, .ref x_ST :: r)) (hx : Nat.ble (x_cat r) 8 = true)
    (t : w_C xs xl z (.ref x_ST :: As) I J b (fun v I J b => w_T xs xl y q L M (w_pv v r) I J b Q)) : w_T xs xl y pc L M S I J b Q := by
  subst hp
  refine w_cl hi rfl ?_ t
  show x_calld y pc L M S _ z b1 9990 = _
  unfold x_calld
  rw [ha]
  dsimp only
  rw [show (decide (x_ST = x_ST)) = true from rfl]
  try dsimp only
  rw [if_pos (Nat.le_of_ble_eq_true hx)]
  rfl
theorem w_iret {a1 b1 p1 q1 : Nat} {e : Int} (hi : x_ins y pc = some (.ireturn, 1, a1, b1, p1, q1)) (hm : (match x_m y with | some mm => x_nok mm.2.2.2.1 (Int32.ofInt e) | none => false) = true) (t : Q (some (w_i e)) I J b) : w_T xs xl y pc L M [w_i e] I J b Q := by
  refine w_rt hi rfl ?_ t
  show x_iret y [w_i e] _ = _
  unfold x_iret
  dsimp only
  cases hmm : x_m y with
  | none => rw [hmm] at hm; cases hm
  | some mm =>
    rw [hmm] at hm
    dsimp only at hm ⊢
    rw [hm]
theorem w_nz1 {e : Int} (h : e = 0 ∨ e = 1) : x_nok (some .boolean) (Int32.ofInt e) = true := by
  rcases h with rfl | rfl <;> rfl
theorem w_jret {a1 b1 p1 q1 : Nat} {e : Int} (hi : x_ins y pc = some (.lreturn, 1, a1, b1, p1, q1)) (t : Q (some (w_l e)) I J b) : w_T xs xl y pc L M [w_l e] I J b Q := w_rt hi rfl rfl t
theorem w_vret {a1 b1 p1 q1 : Nat} (hi : x_ins y pc = some (.return_, 1, a1, b1, p1, q1)) (t : Q none I J b) : w_T xs xl y pc L M [] I J b Q := w_rt hi rfl rfl t
end WT
theorem w_Ug {I : w_I} {a a' : Nat} {k v k' : Int} : w_U I a k v a' k' = if a' = a then (if k' = k then v else I a' k') else I a' k' := by
  unfold w_U
  split <;> rfl
theorem w_cpg {I : w_I} {d s a' : Nat} {sp dp n k' : Int} : w_cp I d s sp dp n a' k' = if a' = d then (if dp ≤ k' ∧ k' < dp + n then I s (sp + (k' - dp)) else I a' k') else I a' k' := by
  unfold w_cp
  split <;> rfl
end
