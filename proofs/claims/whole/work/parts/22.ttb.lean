section
section WT
variable {xs : Nat → Int32} {xl y pc : Nat} {L : x_L} {M : x_J} {S : List Value} {I J : w_I} {b : Bool} {Q : Option Value → w_I → w_I → Bool → Prop}
theorem w_iload_n {a1 b1 p1 q1 : Nat} {q : Nat} {k : Fin 4} {e : Int} (hi : x_ins y pc = some (.iload_n k, 1, a1, b1, p1, q1)) (hp : pc + 1 = q) (hl : x_at L k = some (some (w_i e))) (t : w_T xs xl y q L M (w_i e :: S) I J b Q) : w_T xs xl y pc L M S I J b Q := by
  subst hp
  refine w_go hi rfl ?_ t
  show x_psh y (pc + 1) L M S _ (x_li L k) = _
  unfold x_li x_lg
  rw [hl]
  rfl
theorem w_iload {a1 b1 p1 q1 : Nat} {q : Nat} {k : Nat} {e : Int} (hi : x_ins y pc = some (.iload k, 2, a1, b1, p1, q1)) (hp : pc + 2 = q) (hl : x_at L k = some (some (w_i e))) (t : w_T xs xl y q L M (w_i e :: S) I J b Q) : w_T xs xl y pc L M S I J b Q := by
  subst hp
  refine w_go hi rfl ?_ t
  show x_psh y (pc + 2) L M S _ (x_li L k) = _
  unfold x_li x_lg
  rw [hl]
  rfl
theorem w_aload_n {a1 b1 p1 q1 : Nat} {q : Nat} {k : Fin 4} {r : Nat} (hi : x_ins y pc = some (.aload_n k, 1, a1, b1, p1, q1)) (hp : pc + 1 = q) (hl : x_la L k = some (.ref r)) (t : w_T xs xl y q L M (.ref r :: S) I J b Q) : w_T xs xl y pc L M S I J b Q := by
  subst hp
  refine w_go hi rfl ?_ t
  show x_psh y (pc + 1) L M S _ (x_la L k) = _
  rw [hl]
  rfl
theorem w_aload {a1 b1 p1 q1 : Nat} {q : Nat} {k : Nat} {r : Nat} (hi : x_ins y pc = some (.aload k, 2, a1, b1, p1, q1)) (hp : pc + 2 = q) (hl : x_la L k = some (.ref r)) (t : w_T xs xl y q L M (.ref r :: S) I J b Q) : w_T xs xl y pc L M S I J b Q := by
  subst hp
  refine w_go hi rfl ?_ t
  show x_psh y (pc + 2) L M S _ (x_la L k) = _
  rw [hl]
  rfl
theorem w_lload_n {a1 b1 p1 q1 : Nat} {q : Nat} {k : Fin 4} {e : Int} (hi : x_ins y pc = some (.lload_n k, 1, a1, b1, p1, q1)) (hp : pc + 1 = q) (hl : x_at M k = some (some (Int64.ofInt e))) (t : w_T xs xl y q L M (w_l e :: S) I J b Q) : w_T xs xl y pc L M S I J b Q := by
  subst hp
  refine w_go hi rfl ?_ t
  show x_psh y (pc + 1) L M S _ (x_lj M k) = _
  unfold x_lj x_jg
  rw [hl]
  rfl
theorem w_lload {a1 b1 p1 q1 : Nat} {q : Nat} {k : Nat} {e : Int} (hi : x_ins y pc = some (.lload k, 2, a1, b1, p1, q1)) (hp : pc + 2 = q) (hl : x_at M k = some (some (Int64.ofInt e))) (t : w_T xs xl y q L M (w_l e :: S) I J b Q) : w_T xs xl y pc L M S I J b Q := by
  subst hp
  refine w_go hi rfl ?_ t
  show x_psh y (pc + 2) L M S _ (x_lj M k) = _
  unfold x_lj x_jg
  rw [hl]
  rfl
theorem w_istore_n {a1 b1 p1 q1 : Nat} {q : Nat} {k : Fin 4} {e : Int} {L' : x_L} {M' : x_J} (hi : x_ins y pc = some (.istore_n k, 1, a1, b1, p1, q1)) (hp : pc + 1 = q) (hn : Nat.ble (k + 1) L.length = true) (hL : x_s1 L k (w_i e) = L') (hM : x_m1 M k = M') (t : w_T xs xl y q L' M' S I J b Q) : w_T xs xl y pc L M (w_i e :: S) I J b Q := by
  subst hp
  subst hL hM
  refine w_go hi rfl ?_ t
  show (if k < L.length then x_go y (pc + 1) (x_s1 L k (w_i e)) (x_m1 M k) S _ else none) = _
  rw [if_pos (show k < L.length from Nat.le_of_ble_eq_true hn)]
  rfl
theorem w_istore {a1 b1 p1 q1 : Nat} {q : Nat} {k : Nat} {e : Int} {L' : x_L} {M' : x_J} (hi : x_ins y pc = some (.istore k, 2, a1, b1, p1, q1)) (hp : pc + 2 = q) (hn : Nat.ble (k + 1) L.length = true) (hL : x_s1 L k (w_i e) = L') (hM : x_m1 M k = M') (t : w_T xs xl y q L' M' S I J b Q) : w_T xs xl y pc L M (w_i e :: S) I J b Q := by
  subst hp
  subst hL hM
  refine w_go hi rfl ?_ t
  show (if k < L.length then x_go y (pc + 2) (x_s1 L k (w_i e)) (x_m1 M k) S _ else none) = _
  rw [if_pos (show k < L.length from Nat.le_of_ble_eq_true hn)]
  rfl
theorem w_astore_n {a1 b1 p1 q1 : Nat} {q : Nat} {k : Fin 4} {r : Nat} {L' : x_L} {M' : x_J} (hi : x_ins y pc = some (.astore_n k, 1, a1, b1, p1, q1)) (hp : pc + 1 = q) (hn : Nat.ble (k + 1) L.length = true) (hr : Nat.ble (r + 1) 100000 = true) (hL : x_s1 L k (.ref r) = L') (hM : x_m1 M k = M') (t : w_T xs xl y q L' M' S I J b Q) : w_T xs xl y pc L M (.ref r :: S) I J b Q := by
  subst hp
  subst hL hM
  refine w_go hi rfl ?_ t
  show (if k < L.length ∧ r < 100000 then x_go y (pc + 1) (x_s1 L k (.ref r)) (x_m1 M k) S _ else none) = _
  rw [if_pos (show k < L.length ∧ r < 100000 from ⟨Nat.le_of_ble_eq_true hn, Nat.le_of_ble_eq_true hr⟩)]
  rfl
theorem w_astore {a1 b1 p1 q1 : Nat} {q : Nat} {k : Nat} {r : Nat} {L' : x_L} {M' : x_J} (hi : x_ins y pc = some (.astore k, 2, a1, b1, p1, q1)) (hp : pc + 2 = q) (hn : Nat.ble (k + 1) L.length = true) (hr : Nat.ble (r + 1) 100000 = true) (hL : x_s1 L k (.ref r) = L') (hM : x_m1 M k = M') (t : w_T xs xl y q L' M' S I J b Q) : w_T xs xl y pc L M (.ref r :: S) I J b Q := by
  subst hp
  subst hL hM
  refine w_go hi rfl ?_ t
  show (if k < L.length ∧ r < 100000 then x_go y (pc + 2) (x_s1 L k (.ref r)) (x_m1 M k) S _ else none) = _
  rw [if_pos (show k < L.length ∧ r < 100000 from ⟨Nat.le_of_ble_eq_true hn, Nat.le_of_ble_eq_true hr⟩)]
  rfl
theorem w_lstore_n {a1 b1 p1 q1 : Nat} {q : Nat} {k : Fin 4} {e : Int} {L' : x_L} {M' : x_J} (hi : x_ins y pc = some (.lstore_n k, 1, a1, b1, p1, q1)) (hp : pc + 1 = q) (hn : Nat.ble (k + 2) L.length = true) (hL : x_s2 L k = L') (hM : x_m2 M k (Int64.ofInt e) = M') (t : w_T xs xl y q L' M' S I J b Q) : w_T xs xl y pc L M (w_l e :: S) I J b Q := by
  subst hp
  subst hL hM
  refine w_go hi rfl ?_ t
  show (if k + 1 < L.length then x_go y (pc + 1) (x_s2 L k) (x_m2 M k (Int64.ofInt e)) S _ else none) = _
  rw [if_pos (show k + 1 < L.length from Nat.le_of_ble_eq_true hn)]
  rfl
theorem w_lstore {a1 b1 p1 q1 : Nat} {q : Nat} {k : Nat} {e : Int} {L' : x_L} {M' : x_J} (hi : x_ins y pc = some (.lstore k, 2, a1, b1, p1, q1)) (hp : pc + 2 = q) (hn : Nat.ble (k + 2) L.length = true) (hL : x_s2 L k = L') (hM : x_m2 M k (Int64.ofInt e) = M') (t : w_T xs xl y q L' M' S I J b Q) : w_T xs xl y pc L M (w_l e :: S) I J b Q := by
  subst hp
  subst hL hM
  refine w_go hi rfl ?_ t
  show (if k + 1 < L.length then x_go y (pc + 2) (x_s2 L k) (x_m2 M k (Int64.ofInt e)) S _ else none) = _
  rw [if_pos (show k + 1 < L.length from Nat.le_of_ble_eq_true hn)]
  rfl
theorem w_iinc {a1 b1 p1 q1 : Nat} {q : Nat} {k : Nat} {n e : Int} {L' : x_L} {M' : x_J} (hi : x_ins y pc = some (.iinc k n, 3, a1, b1, p1, q1)) (hp : pc + 3 = q) (hl : x_at L k = some (some (w_i e))) (hn : Nat.ble (k + 1) L.length = true) (hL : x_s1 L k (w_i (e + n)) = L') (hM : x_m1 M k = M') (t : w_T xs xl y q L' M' S I J b Q) : w_T xs xl y pc L M S I J b Q := by
  subst hp
  subst hL hM
  refine w_go hi rfl ?_ t
  show (match x_lg L k with | some (.int x) => if k < L.length then x_go y (pc + 3) (x_s1 L k (.int (x + Int32.ofInt n))) (x_m1 M k) S _ else none | _ => none) = _
  have hg : x_lg L k = some (w_i e) := by
    unfold x_lg
    rw [hl]
  rw [hg]
  show (if k < L.length then x_go y (pc + 3) (x_s1 L k (.int (Int32.ofInt e + Int32.ofInt n))) (x_m1 M k) S _ else none) = _
  rw [if_pos (show k < L.length from Nat.le_of_ble_eq_true hn), ← Int32.ofInt_add]
  rfl
theorem w_iconst {a1 b1 p1 q1 : Nat} {q : Nat} {n : Int} (hi : x_ins y pc = some (.iconst n, 1, a1, b1, p1, q1)) (hp : pc + 1 = q)  (t : w_T xs xl y q L M (w_i n :: S) I J b Q) : w_T xs xl y pc L M S I J b Q := by
  subst hp
  exact w_go hi rfl rfl t
theorem w_bipush {a1 b1 p1 q1 : Nat} {q : Nat} {n : Int} (hi : x_ins y pc = some (.bipush n, 2, a1, b1, p1, q1)) (hp : pc + 2 = q) (hc : (decide (-128 ≤ n) && decide (n < 128)) = true) (t : w_T xs xl y q L M (w_i n :: S) I J b Q) : w_T xs xl y pc L M S I J b Q := by
  subst hp
  refine w_go hi rfl ?_ t
  show x_go y (pc + 2) L M (.int (Int8.ofInt n).toInt32 :: S) _ = _
  have hh : -128 ≤ n ∧ n < 128 := by
    simp only [Bool.and_eq_true, decide_eq_true_eq] at hc
    exact hc
  rw [show (Int8.ofInt n).toInt32 = Int32.ofInt n by
    rw [← Int32.toInt_inj, Int8.toInt_toInt32, Int8.toInt_ofInt_of_le (by omega) (by omega), w_ti ⟨by omega, by omega⟩]]
  rfl
theorem w_sipush {a1 b1 p1 q1 : Nat} {q : Nat} {n : Int} (hi : x_ins y pc = some (.sipush n, 3, a1, b1, p1, q1)) (hp : pc + 3 = q) (hc : (decide (-32768 ≤ n) && decide (n < 32768)) = true) (t : w_T xs xl y q L M (w_i n :: S) I J b Q) : w_T xs xl y pc L M S I J b Q := by
  subst hp
  refine w_go hi rfl ?_ t
  show x_go y (pc + 3) L M (.int (Int16.ofInt n).toInt32 :: S) _ = _
  have hh : -32768 ≤ n ∧ n < 32768 := by
    simp only [Bool.and_eq_true, decide_eq_true_eq] at hc
    exact hc
  rw [show (Int16.ofInt n).toInt32 = Int32.ofInt n by
    rw [← Int32.toInt_inj, Int16.toInt_toInt32, Int16.toInt_ofInt_of_le (by omega) (by omega), w_ti ⟨by omega, by omega⟩]]
  rfl
theorem w_ldc {a1 b1 p1 : Nat} {q : Nat} {n : Int} {ix : Nat} (hi : x_ins y pc = some (.ldc ix, 2, a1, b1, p1, 0)) (hp : pc + 2 = q) (hc : ((a1 : Nat) : Int) = n) (t : w_T xs xl y q L M (w_i n :: S) I J b Q) : w_T xs xl y pc L M S I J b Q := by
  subst hp hc
  refine w_go hi rfl ?_ t
  show x_go y (pc + 2) L M (.int (Int32.ofNat a1) :: S) _ = _
  rw [← Int32.ofInt_eq_ofNat]
  rfl
theorem w_ldcS {a1 b1 p1 : Nat} {q : Nat} {ix : Nat} (hi : x_ins y pc = some (.ldc ix, 2, a1, b1, p1, 1)) (hp : pc + 2 = q) (t : w_T xs xl y q L M (.ref x_ST :: S) I J b Q) : w_T xs xl y pc L M S I J b Q := by
  subst hp
  exact w_go hi rfl rfl t
theorem w_ldc_w {a1 b1 p1 q1 : Nat} {q : Nat} {n : Int} {ix : Nat} (hi : x_ins y pc = some (.ldc_w ix, 3, a1, b1, p1, q1)) (hp : pc + 3 = q) (hc : ((a1 : Nat) : Int) = n) (t : w_T xs xl y q L M (w_i n :: S) I J b Q) : w_T xs xl y pc L M S I J b Q := by
  subst hp
  subst hc
  refine w_go hi rfl ?_ t
  show x_go y (pc + 3) L M (.int (Int32.ofNat a1) :: S) _ = _
  rw [← Int32.ofInt_eq_ofNat]
  rfl
theorem w_lconst {a1 b1 p1 q1 : Nat} {q : Nat} {n : Fin 2} {k : Int} (hi : x_ins y pc = some (.lconst n, 1, a1, b1, p1, q1)) (hp : pc + 1 = q) (hc : ((n : Nat) : Int) = k) (t : w_T xs xl y q L M (w_l k :: S) I J b Q) : w_T xs xl y pc L M S I J b Q := by
  subst hp
  subst hc
  refine w_go hi rfl ?_ t
  show x_go y (pc + 1) L M (.long (Int64.ofNat n) :: S) _ = _
  rw [← Int64.ofInt_eq_ofNat]
  rfl
theorem w_ldc2 {a1 b1 p1 q1 : Nat} {q : Nat} {n : Int} {ix : Nat} (hi : x_ins y pc = some (.ldc2_w ix, 3, a1, b1, p1, q1)) (hp : pc + 3 = q) (hc : (if b1 = 1 then -(a1 : Int) else (a1 : Int)) = n) (t : w_T xs xl y q L M (w_l n :: S) I J b Q) : w_T xs xl y pc L M S I J b Q := by
  subst hp
  subst hc
  refine w_go hi rfl ?_ t
  show x_go y (pc + 3) L M (.long (if b1 = 1 then Int64.ofInt (-(a1 : Int)) else Int64.ofInt (a1 : Int)) :: S) _ = _
  by_cases h : b1 = 1
  · rw [if_pos h, if_pos h]; rfl
  · rw [if_neg h, if_neg h]; rfl
end WT
end
