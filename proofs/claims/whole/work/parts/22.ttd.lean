section
section WT
variable {xs : Nat → Int32} {xl y pc : Nat} {L : x_L} {M : x_J} {S : List Value} {I J : w_I} {b : Bool} {Q : Option Value → w_I → w_I → Bool → Prop}
theorem w_cmp_in (c d : Int) : w_in (w_cmp c d) := by
  unfold w_cmp
  repeat' split
  all_goals decide
theorem w_cmp_eq {c d : Int} (h : w_cmp c d = 0) : c = d := by
  unfold w_cmp at h
  split at h
  · cases h
  · split at h
    · assumption
    · cases h
theorem w_cmp_ne {c d : Int} (h : ¬ w_cmp c d = 0) : ¬ c = d := by
  intro e
  subst e
  apply h
  unfold w_cmp
  rw [if_neg (by omega), if_pos rfl]
theorem w_divv {c d : Int} (hc : w_in c) (hd : w_in d) : Int32.ofInt c / Int32.ofInt d = Int32.ofInt (c.tdiv d) := by
  have e1 : Int32.minValue.toInt = -2147483648 := rfl
  have e2 : Int32.maxValue.toInt = 2147483647 := rfl
  exact (Int32.ofInt_tdiv (by have := hc.1; omega) (by have := hc.2; omega) (by have := hd.1; omega) (by have := hd.2; omega)).symm
theorem w_nz {d : Int} (hd : w_in d) (h0 : d ≠ 0) : ¬ Int32.ofInt d = 0 := by
  rw [w_z, w_eq hd w_in0]
  exact h0
theorem w_idivG {a1 b1 p1 q1 : Nat} {q : Nat} {c d : Int} (hi : x_ins y pc = some (.idiv, 1, a1, b1, p1, q1)) (hp : pc + 1 = q) (hc : w_in c) (hd : w_in d) (h0 : d ≠ 0) (t : w_T xs xl y q L M (w_i (c.tdiv d) :: S) I J b Q) : w_T xs xl y pc L M (w_i d :: w_i c :: S) I J b Q := by
  subst hp
  refine w_go hi rfl ?_ t
  show (match (if Int32.ofInt d = 0 then none else some (Int32.ofInt c / Int32.ofInt d) : Option Int32) with | some c => x_go y (pc + 1) L M (.int c :: S) _ | none => none) = _
  rw [if_neg (w_nz hd h0), w_divv hc hd]
  rfl
theorem w_idiv {a1 b1 p1 q1 : Nat} {q : Nat} {c d : Int} (hi : x_ins y pc = some (.idiv, 1, a1, b1, p1, q1)) (hp : pc + 1 = q) (hh : 0 ≤ c ∧ c < 2147483648 ∧ 0 < d ∧ d < 2147483648) (t : w_T xs xl y q L M (w_i (c / d) :: S) I J b Q) : w_T xs xl y pc L M (w_i d :: w_i c :: S) I J b Q := by
  subst hp
  refine w_idivG hi rfl ⟨by have := hh.1; omega, hh.2.1⟩ ⟨by have := hh.2.2.1; omega, hh.2.2.2⟩ (by have := hh.2.2.1; omega) ?_
  rw [Int.tdiv_eq_ediv_of_nonneg hh.1]
  exact t
theorem w_irem {a1 b1 p1 q1 : Nat} {q : Nat} {c d : Int} (hi : x_ins y pc = some (.irem, 1, a1, b1, p1, q1)) (hp : pc + 1 = q) (hh : 0 ≤ c ∧ c < 2147483648 ∧ 0 < d ∧ d < 2147483648) (t : w_T xs xl y q L M (w_i (c % d) :: S) I J b Q) : w_T xs xl y pc L M (w_i d :: w_i c :: S) I J b Q := by
  subst hp
  refine w_go hi rfl ?_ t
  have hc : w_in c := ⟨by have := hh.1; omega, hh.2.1⟩
  have hd : w_in d := ⟨by have := hh.2.2.1; omega, hh.2.2.2⟩
  show (match (if Int32.ofInt d = 0 then none else some (Int32.ofInt c - Int32.ofInt c / Int32.ofInt d * Int32.ofInt d) : Option Int32) with | some c => x_go y (pc + 1) L M (.int c :: S) _ | none => none) = _
  rw [if_neg (w_nz hd (by have := hh.2.2.1; omega)), w_divv hc hd, ← Int32.ofInt_mul, ← Int32.ofInt_sub, Int.tdiv_eq_ediv_of_nonneg hh.1]
  rw [show c - c / d * d = c % d by
    have := Int.emod_add_mul_ediv c d
    rw [Int.mul_comm] at this
    omega]
  rfl
theorem w_i2l {a1 b1 p1 q1 : Nat} {q : Nat} {c : Int} (hi : x_ins y pc = some (.i2l, 1, a1, b1, p1, q1)) (hp : pc + 1 = q) (hc : w_in c) (t : w_T xs xl y q L M (w_l c :: S) I J b Q) : w_T xs xl y pc L M (w_i c :: S) I J b Q := by
  subst hp
  refine w_go hi rfl ?_ t
  show x_go y (pc + 1) L M (.long (Int32.ofInt c).toInt64 :: S) _ = _
  rw [show (Int32.ofInt c).toInt64 = Int64.ofInt c by
    rw [← Int64.toInt_inj, Int32.toInt_toInt64, w_ti hc, w_tl ⟨by have := hc.1; omega, by have := hc.2; omega⟩]]
  rfl
theorem w_i2b {a1 b1 p1 q1 : Nat} {q : Nat} {c : Int} (hi : x_ins y pc = some (.i2b, 1, a1, b1, p1, q1)) (hp : pc + 1 = q)  (t : w_T xs xl y q L M (w_i (w_by c) :: S) I J b Q) : w_T xs xl y pc L M (w_i c :: S) I J b Q := by
  subst hp
  refine w_go hi rfl ?_ t
  show x_go y (pc + 1) L M (.int (Int32.ofInt c).toInt8.toInt32 :: S) _ = x_go y (pc + 1) L M (w_i (w_by c) :: S) _
  unfold w_i w_by
  rw [show Int32.ofInt (Int32.ofInt c).toInt8.toInt = (Int32.ofInt c).toInt8.toInt32 from Int32.ofInt_int8ToInt _]
theorem w_ladd {a1 b1 p1 q1 : Nat} {q : Nat} {c d : Int} (hi : x_ins y pc = some (.ladd, 1, a1, b1, p1, q1)) (hp : pc + 1 = q)  (t : w_T xs xl y q L M (w_l (c + d) :: S) I J b Q) : w_T xs xl y pc L M (w_l d :: w_l c :: S) I J b Q := by
  subst hp
  refine w_go hi rfl ?_ t
  show x_go y (pc + 1) L M (.long (Int64.ofInt c + Int64.ofInt d) :: S) _ = _
  rw [← Int64.ofInt_add]
  rfl
theorem w_lsub {a1 b1 p1 q1 : Nat} {q : Nat} {c d : Int} (hi : x_ins y pc = some (.lsub, 1, a1, b1, p1, q1)) (hp : pc + 1 = q)  (t : w_T xs xl y q L M (w_l (c - d) :: S) I J b Q) : w_T xs xl y pc L M (w_l d :: w_l c :: S) I J b Q := by
  subst hp
  refine w_go hi rfl ?_ t
  show x_go y (pc + 1) L M (.long (Int64.ofInt c - Int64.ofInt d) :: S) _ = _
  rw [← Int64.ofInt_sub]
  rfl
theorem w_lmul {a1 b1 p1 q1 : Nat} {q : Nat} {c d : Int} (hi : x_ins y pc = some (.lmul, 1, a1, b1, p1, q1)) (hp : pc + 1 = q)  (t : w_T xs xl y q L M (w_l (c * d) :: S) I J b Q) : w_T xs xl y pc L M (w_l d :: w_l c :: S) I J b Q := by
  subst hp
  refine w_go hi rfl ?_ t
  show x_go y (pc + 1) L M (.long (Int64.ofInt c * Int64.ofInt d) :: S) _ = _
  rw [← Int64.ofInt_mul]
  rfl
theorem w_lcmp {a1 b1 p1 q1 : Nat} {q : Nat} {c d : Int} (hi : x_ins y pc = some (.lcmp, 1, a1, b1, p1, q1)) (hp : pc + 1 = q) (hc : w_inl c) (hd : w_inl d) (t : w_T xs xl y q L M (w_i (w_cmp c d) :: S) I J b Q) : w_T xs xl y pc L M (w_l d :: w_l c :: S) I J b Q := by
  subst hp
  refine w_go hi rfl ?_ t
  show x_go y (pc + 1) L M (.int (lg_cmp (Int64.ofInt c) (Int64.ofInt d)) :: S) _ = _
  rw [show lg_cmp (Int64.ofInt c) (Int64.ofInt d) = Int32.ofInt (w_cmp c d) by
    unfold lg_cmp w_cmp
    simp only [gt_iff_lt, Int64.lt_iff_toInt_lt, ← Int64.toInt_inj, w_tl hc, w_tl hd]
    by_cases h1 : d < c
    · rw [if_pos h1, if_pos h1]; rfl
    · rw [if_neg h1, if_neg h1]
      by_cases h2 : c = d
      · rw [if_pos h2, if_pos h2]; rfl
      · rw [if_neg h2, if_neg h2]; rfl]
  rfl
theorem w_dup {a1 b1 p1 q1 : Nat} {q : Nat} {v : Value} (hi : x_ins y pc = some (.dup, 1, a1, b1, p1, q1)) (hp : pc + 1 = q) (hv : v.category = 1) (t : w_T xs xl y q L M (v :: v :: S) I J b Q) : w_T xs xl y pc L M (v :: S) I J b Q := by
  subst hp
  refine w_go hi rfl ?_ t
  show (if v.category = 1 then x_go y (pc + 1) L M (v :: v :: S) _ else none) = _
  rw [if_pos hv]
  rfl
theorem w_dup2 {a1 b1 p1 q1 : Nat} {q : Nat} {v w : Value} (hi : x_ins y pc = some (.dup2, 1, a1, b1, p1, q1)) (hp : pc + 1 = q) (hv : v.category = 1) (hw : w.category = 1) (t : w_T xs xl y q L M (v :: w :: v :: w :: S) I J b Q) : w_T xs xl y pc L M (v :: w :: S) I J b Q := by
  subst hp
  refine w_go hi rfl ?_ t
  show (if v.category = 1 ∧ w.category = 1 then x_go y (pc + 1) L M (v :: w :: v :: w :: S) _ else none) = _
  rw [if_pos ⟨hv, hw⟩]
  rfl
theorem w_pop {a1 b1 p1 q1 : Nat} {q : Nat} {v : Value} (hi : x_ins y pc = some (.pop, 1, a1, b1, p1, q1)) (hp : pc + 1 = q) (hv : v.category = 1) (t : w_T xs xl y q L M S I J b Q) : w_T xs xl y pc L M (v :: S) I J b Q := by
  subst hp
  refine w_go hi rfl ?_ t
  show (if v.category = 1 then x_go y (pc + 1) L M S _ else none) = _
  rw [if_pos hv]
  rfl
theorem w_ceq {a1 b1 p1 q1 : Nat} {t q : Nat} {off : Int} {c d : Int} (hi : x_ins y pc = some (.if_icmp .eq off, 3, a1, b1, p1, q1)) (ht : x_tg pc off = some t) (hp : pc + 3 = q) (hc : w_in c) (hd : w_in d) (k1 : c = d → w_T xs xl y t L M S I J b Q) (k2 : ¬ c = d → w_T xs xl y q L M S I J b Q) : w_T xs xl y pc L M (w_i d :: w_i c :: S) I J b Q := by
  subst hp
  have ho : x_op xs xl y pc L M (w_i d :: w_i c :: S) (w_K, w_h I, w_hj J, w_A b) (.if_icmp .eq off, 3, a1, b1, p1, q1) = (if Int32.ofInt c = Int32.ofInt d then x_go y t L M S (w_K, w_h I, w_hj J, w_A b) else x_go y (pc + 3) L M S (w_K, w_h I, w_hj J, w_A b)) := by
    show (match x_ii (w_i d :: w_i c :: S), x_tg pc off with | some (x, z, r), some t => x_br .eq x z (x_go y t L M r _) (x_go y (pc + 3) L M r _) | _, _ => none) = _
    rw [ht]
    rfl
  have hv : (Int32.ofInt c = Int32.ofInt d) ↔ (c = d) := w_eq hc hd
  by_cases h : c = d
  · exact w_go hi rfl (ho.trans (if_pos (hv.mpr h))) (k1 h)
  · exact w_go hi rfl (ho.trans (if_neg (fun g => h (hv.mp g)))) (k2 h)
theorem w_zeq {a1 b1 p1 q1 : Nat} {t q : Nat} {off : Int} {c : Int} (hi : x_ins y pc = some (.ifCond .eq off, 3, a1, b1, p1, q1)) (ht : x_tg pc off = some t) (hp : pc + 3 = q) (hc : w_in c) (k1 : c = 0 → w_T xs xl y t L M S I J b Q) (k2 : ¬ c = 0 → w_T xs xl y q L M S I J b Q) : w_T xs xl y pc L M (w_i c :: S) I J b Q := by
  subst hp
  have hd := w_in0
  have ho : x_op xs xl y pc L M (w_i c :: S) (w_K, w_h I, w_hj J, w_A b) (.ifCond .eq off, 3, a1, b1, p1, q1) = (if Int32.ofInt c = Int32.ofInt 0 then x_go y t L M S (w_K, w_h I, w_hj J, w_A b) else x_go y (pc + 3) L M S (w_K, w_h I, w_hj J, w_A b)) := by
    show (match x_i1 (w_i c :: S), x_tg pc off with | some (x, r), some t => x_br .eq x 0 (x_go y t L M r _) (x_go y (pc + 3) L M r _) | _, _ => none) = _
    rw [ht]
    rfl
  have hv : (Int32.ofInt c = Int32.ofInt 0) ↔ (c = 0) := w_eq hc hd
  by_cases h : c = 0
  · exact w_go hi rfl (ho.trans (if_pos (hv.mpr h))) (k1 h)
  · exact w_go hi rfl (ho.trans (if_neg (fun g => h (hv.mp g)))) (k2 h)
theorem w_cne {a1 b1 p1 q1 : Nat} {t q : Nat} {off : Int} {c d : Int} (hi : x_ins y pc = some (.if_icmp .ne off, 3, a1, b1, p1, q1)) (ht : x_tg pc off = some t) (hp : pc + 3 = q) (hc : w_in c) (hd : w_in d) (k1 : ¬ c = d → w_T xs xl y t L M S I J b Q) (k2 : c = d → w_T xs xl y q L M S I J b Q) : w_T xs xl y pc L M (w_i d :: w_i c :: S) I J b Q := by
  subst hp
  have ho : x_op xs xl y pc L M (w_i d :: w_i c :: S) (w_K, w_h I, w_hj J, w_A b) (.if_icmp .ne off, 3, a1, b1, p1, q1) = (if ¬ Int32.ofInt c = Int32.ofInt d then x_go y t L M S (w_K, w_h I, w_hj J, w_A b) else x_go y (pc + 3) L M S (w_K, w_h I, w_hj J, w_A b)) := by
    show (match x_ii (w_i d :: w_i c :: S), x_tg pc off with | some (x, z, r), some t => x_br .ne x z (x_go y t L M r _) (x_go y (pc + 3) L M r _) | _, _ => none) = _
    rw [ht]
    rfl
  have hv : (¬ Int32.ofInt c = Int32.ofInt d) ↔ (¬ c = d) := not_congr (w_eq hc hd)
  by_cases h : ¬ c = d
  · exact w_go hi rfl (ho.trans (if_pos (hv.mpr h))) (k1 h)
  · exact w_go hi rfl (ho.trans (if_neg (fun g => h (hv.mp g)))) (k2 (Decidable.not_not.mp h))
theorem w_zne {a1 b1 p1 q1 : Nat} {t q : Nat} {off : Int} {c : Int} (hi : x_ins y pc = some (.ifCond .ne off, 3, a1, b1, p1, q1)) (ht : x_tg pc off = some t) (hp : pc + 3 = q) (hc : w_in c) (k1 : ¬ c = 0 → w_T xs xl y t L M S I J b Q) (k2 : c = 0 → w_T xs xl y q L M S I J b Q) : w_T xs xl y pc L M (w_i c :: S) I J b Q := by
  subst hp
  have hd := w_in0
  have ho : x_op xs xl y pc L M (w_i c :: S) (w_K, w_h I, w_hj J, w_A b) (.ifCond .ne off, 3, a1, b1, p1, q1) = (if ¬ Int32.ofInt c = Int32.ofInt 0 then x_go y t L M S (w_K, w_h I, w_hj J, w_A b) else x_go y (pc + 3) L M S (w_K, w_h I, w_hj J, w_A b)) := by
    show (match x_i1 (w_i c :: S), x_tg pc off with | some (x, r), some t => x_br .ne x 0 (x_go y t L M r _) (x_go y (pc + 3) L M r _) | _, _ => none) = _
    rw [ht]
    rfl
  have hv : (¬ Int32.ofInt c = Int32.ofInt 0) ↔ (¬ c = 0) := not_congr (w_eq hc hd)
  by_cases h : ¬ c = 0
  · exact w_go hi rfl (ho.trans (if_pos (hv.mpr h))) (k1 h)
  · exact w_go hi rfl (ho.trans (if_neg (fun g => h (hv.mp g)))) (k2 (Decidable.not_not.mp h))
theorem w_clt {a1 b1 p1 q1 : Nat} {t q : Nat} {off : Int} {c d : Int} (hi : x_ins y pc = some (.if_icmp .lt off, 3, a1, b1, p1, q1)) (ht : x_tg pc off = some t) (hp : pc + 3 = q) (hc : w_in c) (hd : w_in d) (k1 : c < d → w_T xs xl y t L M S I J b Q) (k2 : ¬ c < d → w_T xs xl y q L M S I J b Q) : w_T xs xl y pc L M (w_i d :: w_i c :: S) I J b Q := by
  subst hp
  have ho : x_op xs xl y pc L M (w_i d :: w_i c :: S) (w_K, w_h I, w_hj J, w_A b) (.if_icmp .lt off, 3, a1, b1, p1, q1) = (if Int32.ofInt c < Int32.ofInt d then x_go y t L M S (w_K, w_h I, w_hj J, w_A b) else x_go y (pc + 3) L M S (w_K, w_h I, w_hj J, w_A b)) := by
    show (match x_ii (w_i d :: w_i c :: S), x_tg pc off with | some (x, z, r), some t => x_br .lt x z (x_go y t L M r _) (x_go y (pc + 3) L M r _) | _, _ => none) = _
    rw [ht]
    rfl
  have hv : (Int32.ofInt c < Int32.ofInt d) ↔ (c < d) := w_lt hc hd
  by_cases h : c < d
  · exact w_go hi rfl (ho.trans (if_pos (hv.mpr h))) (k1 h)
  · exact w_go hi rfl (ho.trans (if_neg (fun g => h (hv.mp g)))) (k2 h)
theorem w_zlt {a1 b1 p1 q1 : Nat} {t q : Nat} {off : Int} {c : Int} (hi : x_ins y pc = some (.ifCond .lt off, 3, a1, b1, p1, q1)) (ht : x_tg pc off = some t) (hp : pc + 3 = q) (hc : w_in c) (k1 : c < 0 → w_T xs xl y t L M S I J b Q) (k2 : ¬ c < 0 → w_T xs xl y q L M S I J b Q) : w_T xs xl y pc L M (w_i c :: S) I J b Q := by
  subst hp
  have hd := w_in0
  have ho : x_op xs xl y pc L M (w_i c :: S) (w_K, w_h I, w_hj J, w_A b) (.ifCond .lt off, 3, a1, b1, p1, q1) = (if Int32.ofInt c < Int32.ofInt 0 then x_go y t L M S (w_K, w_h I, w_hj J, w_A b) else x_go y (pc + 3) L M S (w_K, w_h I, w_hj J, w_A b)) := by
    show (match x_i1 (w_i c :: S), x_tg pc off with | some (x, r), some t => x_br .lt x 0 (x_go y t L M r _) (x_go y (pc + 3) L M r _) | _, _ => none) = _
    rw [ht]
    rfl
  have hv : (Int32.ofInt c < Int32.ofInt 0) ↔ (c < 0) := w_lt hc hd
  by_cases h : c < 0
  · exact w_go hi rfl (ho.trans (if_pos (hv.mpr h))) (k1 h)
  · exact w_go hi rfl (ho.trans (if_neg (fun g => h (hv.mp g)))) (k2 h)
theorem w_cge {a1 b1 p1 q1 : Nat} {t q : Nat} {off : Int} {c d : Int} (hi : x_ins y pc = some (.if_icmp .ge off, 3, a1, b1, p1, q1)) (ht : x_tg pc off = some t) (hp : pc + 3 = q) (hc : w_in c) (hd : w_in d) (k1 : d ≤ c → w_T xs xl y t L M S I J b Q) (k2 : ¬ d ≤ c → w_T xs xl y q L M S I J b Q) : w_T xs xl y pc L M (w_i d :: w_i c :: S) I J b Q := by
  subst hp
  have ho : x_op xs xl y pc L M (w_i d :: w_i c :: S) (w_K, w_h I, w_hj J, w_A b) (.if_icmp .ge off, 3, a1, b1, p1, q1) = (if Int32.ofInt d ≤ Int32.ofInt c then x_go y t L M S (w_K, w_h I, w_hj J, w_A b) else x_go y (pc + 3) L M S (w_K, w_h I, w_hj J, w_A b)) := by
    show (match x_ii (w_i d :: w_i c :: S), x_tg pc off with | some (x, z, r), some t => x_br .ge x z (x_go y t L M r _) (x_go y (pc + 3) L M r _) | _, _ => none) = _
    rw [ht]
    rfl
  have hv : (Int32.ofInt d ≤ Int32.ofInt c) ↔ (d ≤ c) := w_le hd hc
  by_cases h : d ≤ c
  · exact w_go hi rfl (ho.trans (if_pos (hv.mpr h))) (k1 h)
  · exact w_go hi rfl (ho.trans (if_neg (fun g => h (hv.mp g)))) (k2 h)
theorem w_zge {a1 b1 p1 q1 : Nat} {t q : Nat} {off : Int} {c : Int} (hi : x_ins y pc = some (.ifCond .ge off, 3, a1, b1, p1, q1)) (ht : x_tg pc off = some t) (hp : pc + 3 = q) (hc : w_in c) (k1 : 0 ≤ c → w_T xs xl y t L M S I J b Q) (k2 : ¬ 0 ≤ c → w_T xs xl y q L M S I J b Q) : w_T xs xl y pc L M (w_i c :: S) I J b Q := by
  subst hp
  have hd := w_in0
  have ho : x_op xs xl y pc L M (w_i c :: S) (w_K, w_h I, w_hj J, w_A b) (.ifCond .ge off, 3, a1, b1, p1, q1) = (if Int32.ofInt 0 ≤ Int32.ofInt c then x_go y t L M S (w_K, w_h I, w_hj J, w_A b) else x_go y (pc + 3) L M S (w_K, w_h I, w_hj J, w_A b)) := by
    show (match x_i1 (w_i c :: S), x_tg pc off with | some (x, r), some t => x_br .ge x 0 (x_go y t L M r _) (x_go y (pc + 3) L M r _) | _, _ => none) = _
    rw [ht]
    rfl
  have hv : (Int32.ofInt 0 ≤ Int32.ofInt c) ↔ (0 ≤ c) := w_le hd hc
  by_cases h : 0 ≤ c
  · exact w_go hi rfl (ho.trans (if_pos (hv.mpr h))) (k1 h)
  · exact w_go hi rfl (ho.trans (if_neg (fun g => h (hv.mp g)))) (k2 h)
theorem w_cgt {a1 b1 p1 q1 : Nat} {t q : Nat} {off : Int} {c d : Int} (hi : x_ins y pc = some (.if_icmp .gt off, 3, a1, b1, p1, q1)) (ht : x_tg pc off = some t) (hp : pc + 3 = q) (hc : w_in c) (hd : w_in d) (k1 : d < c → w_T xs xl y t L M S I J b Q) (k2 : ¬ d < c → w_T xs xl y q L M S I J b Q) : w_T xs xl y pc L M (w_i d :: w_i c :: S) I J b Q := by
  subst hp
  have ho : x_op xs xl y pc L M (w_i d :: w_i c :: S) (w_K, w_h I, w_hj J, w_A b) (.if_icmp .gt off, 3, a1, b1, p1, q1) = (if Int32.ofInt d < Int32.ofInt c then x_go y t L M S (w_K, w_h I, w_hj J, w_A b) else x_go y (pc + 3) L M S (w_K, w_h I, w_hj J, w_A b)) := by
    show (match x_ii (w_i d :: w_i c :: S), x_tg pc off with | some (x, z, r), some t => x_br .gt x z (x_go y t L M r _) (x_go y (pc + 3) L M r _) | _, _ => none) = _
    rw [ht]
    rfl
  have hv : (Int32.ofInt d < Int32.ofInt c) ↔ (d < c) := w_lt hd hc
  by_cases h : d < c
  · exact w_go hi rfl (ho.trans (if_pos (hv.mpr h))) (k1 h)
  · exact w_go hi rfl (ho.trans (if_neg (fun g => h (hv.mp g)))) (k2 h)
theorem w_zgt {a1 b1 p1 q1 : Nat} {t q : Nat} {off : Int} {c : Int} (hi : x_ins y pc = some (.ifCond .gt off, 3, a1, b1, p1, q1)) (ht : x_tg pc off = some t) (hp : pc + 3 = q) (hc : w_in c) (k1 : 0 < c → w_T xs xl y t L M S I J b Q) (k2 : ¬ 0 < c → w_T xs xl y q L M S I J b Q) : w_T xs xl y pc L M (w_i c :: S) I J b Q := by
  subst hp
  have hd := w_in0
  have ho : x_op xs xl y pc L M (w_i c :: S) (w_K, w_h I, w_hj J, w_A b) (.ifCond .gt off, 3, a1, b1, p1, q1) = (if Int32.ofInt 0 < Int32.ofInt c then x_go y t L M S (w_K, w_h I, w_hj J, w_A b) else x_go y (pc + 3) L M S (w_K, w_h I, w_hj J, w_A b)) := by
    show (match x_i1 (w_i c :: S), x_tg pc off with | some (x, r), some t => x_br .gt x 0 (x_go y t L M r _) (x_go y (pc + 3) L M r _) | _, _ => none) = _
    rw [ht]
    rfl
  have hv : (Int32.ofInt 0 < Int32.ofInt c) ↔ (0 < c) := w_lt hd hc
  by_cases h : 0 < c
  · exact w_go hi rfl (ho.trans (if_pos (hv.mpr h))) (k1 h)
  · exact w_go hi rfl (ho.trans (if_neg (fun g => h (hv.mp g)))) (k2 h)
theorem w_cle {a1 b1 p1 q1 : Nat} {t q : Nat} {off : Int} {c d : Int} (hi : x_ins y pc = some (.if_icmp .le off, 3, a1, b1, p1, q1)) (ht : x_tg pc off = some t) (hp : pc + 3 = q) (hc : w_in c) (hd : w_in d) (k1 : c ≤ d → w_T xs xl y t L M S I J b Q) (k2 : ¬ c ≤ d → w_T xs xl y q L M S I J b Q) : w_T xs xl y pc L M (w_i d :: w_i c :: S) I J b Q := by
  subst hp
  have ho : x_op xs xl y pc L M (w_i d :: w_i c :: S) (w_K, w_h I, w_hj J, w_A b) (.if_icmp .le off, 3, a1, b1, p1, q1) = (if Int32.ofInt c ≤ Int32.ofInt d then x_go y t L M S (w_K, w_h I, w_hj J, w_A b) else x_go y (pc + 3) L M S (w_K, w_h I, w_hj J, w_A b)) := by
    show (match x_ii (w_i d :: w_i c :: S), x_tg pc off with | some (x, z, r), some t => x_br .le x z (x_go y t L M r _) (x_go y (pc + 3) L M r _) | _, _ => none) = _
    rw [ht]
    rfl
  have hv : (Int32.ofInt c ≤ Int32.ofInt d) ↔ (c ≤ d) := w_le hc hd
  by_cases h : c ≤ d
  · exact w_go hi rfl (ho.trans (if_pos (hv.mpr h))) (k1 h)
  · exact w_go hi rfl (ho.trans (if_neg (fun g => h (hv.mp g)))) (k2 h)
theorem w_zle {a1 b1 p1 q1 : Nat} {t q : Nat} {off : Int} {c : Int} (hi : x_ins y pc = some (.ifCond .le off, 3, a1, b1, p1, q1)) (ht : x_tg pc off = some t) (hp : pc + 3 = q) (hc : w_in c) (k1 : c ≤ 0 → w_T xs xl y t L M S I J b Q) (k2 : ¬ c ≤ 0 → w_T xs xl y q L M S I J b Q) : w_T xs xl y pc L M (w_i c :: S) I J b Q := by
  subst hp
  have hd := w_in0
  have ho : x_op xs xl y pc L M (w_i c :: S) (w_K, w_h I, w_hj J, w_A b) (.ifCond .le off, 3, a1, b1, p1, q1) = (if Int32.ofInt c ≤ Int32.ofInt 0 then x_go y t L M S (w_K, w_h I, w_hj J, w_A b) else x_go y (pc + 3) L M S (w_K, w_h I, w_hj J, w_A b)) := by
    show (match x_i1 (w_i c :: S), x_tg pc off with | some (x, r), some t => x_br .le x 0 (x_go y t L M r _) (x_go y (pc + 3) L M r _) | _, _ => none) = _
    rw [ht]
    rfl
  have hv : (Int32.ofInt c ≤ Int32.ofInt 0) ↔ (c ≤ 0) := w_le hc hd
  by_cases h : c ≤ 0
  · exact w_go hi rfl (ho.trans (if_pos (hv.mpr h))) (k1 h)
  · exact w_go hi rfl (ho.trans (if_neg (fun g => h (hv.mp g)))) (k2 h)
theorem w_goto {a1 b1 p1 q1 : Nat} {t : Nat} {off : Int} (hi : x_ins y pc = some (.goto off, 3, a1, b1, p1, q1)) (ht : x_tg pc off = some t) (k : w_T xs xl y t L M S I J b Q) : w_T xs xl y pc L M S I J b Q := by
  refine w_go hi rfl ?_ k
  show x_jmp y L M S _ (x_tg pc off) = _
  rw [ht]
  rfl
theorem w_tsw {a1 b1 p1 q1 : Nat} {t : Nat} {ln : Nat} {dflt lo hi' : Int} {offs : Array Int} {c : Int} (hi : x_ins y pc = some (.tableswitch dflt lo hi' offs, ln, a1, b1, p1, q1)) (hc : w_in c) (ht : (if c < lo ∨ hi' < c then x_tg pc dflt else (match offs[(c - lo).toNat]? with | some off => x_tg pc off | none => none)) = some t) (k : w_T xs xl y t L M S I J b Q) : w_T xs xl y pc L M (w_i c :: S) I J b Q := by
  refine w_go hi rfl ?_ k
  show x_jmp y L M S _ (x_sw pc dflt lo hi' offs (Int32.ofInt c)) = _
  have : x_sw pc dflt lo hi' offs (Int32.ofInt c) = some t := by
    unfold x_sw
    rw [w_ti hc]
    exact ht
  rw [this]
  rfl
theorem w_lsw {a1 b1 p1 q1 : Nat} {t : Nat} {ln : Nat} {dflt : Int} {ps : Array (Int × Int)} {c : Int} (hi : x_ins y pc = some (.lookupswitch dflt ps, ln, a1, b1, p1, q1)) (hc : w_in c) (ht : x_tg pc (Op.lookupswitch.offset ps.toList dflt c) = some t) (k : w_T xs xl y t L M S I J b Q) : w_T xs xl y pc L M (w_i c :: S) I J b Q := by
  refine w_go hi rfl ?_ k
  show x_jmp y L M S _ (x_tg pc (Op.lookupswitch.offset ps.toList dflt (Int32.ofInt c).toInt)) = _
  rw [w_ti hc, ht]
  rfl
end WT
end
