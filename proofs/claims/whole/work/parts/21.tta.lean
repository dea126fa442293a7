section
/-! the Int-level view: cells hold integers; runs with a postcondition -/
abbrev w_I : Type := Nat → Int → Int
def w_h (I : w_I) : Nat → Nat → Int32 := fun a k => Int32.ofInt (I a (k : Int))
def w_hj (J : w_I) : Nat → Nat → Int64 := fun a k => Int64.ofInt (J a (k : Int))
def w_U (I : w_I) (a : Nat) (k v : Int) : w_I := fun a' => if a' = a then (fun k' => if k' = k then v else I a' k') else I a'
def w_cp (I : w_I) (d s : Nat) (sp dp n : Int) : w_I := fun a' => if a' = d then (fun k' => if dp ≤ k' ∧ k' < dp + n then I s (sp + (k' - dp)) else I a' k') else I a'
abbrev w_in (e : Int) : Prop := -2147483648 ≤ e ∧ e < 2147483648
abbrev w_inl (e : Int) : Prop := -9223372036854775808 ≤ e ∧ e < 9223372036854775808
abbrev w_i (e : Int) : Value := Value.int (Int32.ofInt e)
abbrev w_l (e : Int) : Value := Value.long (Int64.ofInt e)
def w_and (a b : Int) : Int := (Int32.ofInt a &&& Int32.ofInt b).toInt
def w_or (a b : Int) : Int := (Int32.ofInt a ||| Int32.ofInt b).toInt
def w_xor (a b : Int) : Int := (Int32.ofInt a ^^^ Int32.ofInt b).toInt
def w_shl (a b : Int) : Int := (Int32.ofInt a <<< (Int32.ofInt b &&& 31)).toInt
def w_shr (a b : Int) : Int := (Int32.ofInt a >>> (Int32.ofInt b &&& 31)).toInt
def w_ush (a b : Int) : Int := ((Int32.ofInt a).toUInt32 >>> ((Int32.ofInt b).toUInt32 &&& Int32.toUInt32 31)).toInt32.toInt
def w_by (a : Int) : Int := (Int32.ofInt a).toInt8.toInt
def w_cmp (a b : Int) : Int := if b < a then 1 else if a = b then 0 else -1
def w_K : List x_K := [.inl 11, .inr (1, 2000), .inl 8, .inr (0, 24), .inr (0, 24), .inr (0, 404), .inr (0, 10), .inr (0, 10), .inl 6, .inl 8, .inr (0, 24), .inr (0, 24), .inr (0, 404), .inr (0, 10), .inr (0, 10), .inr (0, 402), .inr (0, 402), .inr (0, 402), .inr (0, 24), .inr (0, 32), .inl 0, .inr (0, 60), .inr (0, 60), .inr (0, 60), .inr (0, 60), .inr (0, 60), .inr (0, 30), .inr (0, 30), .inr (0, 30), .inr (0, 30), .inr (0, 24), .inr (0, 40), .inr (0, 40), .inr (0, 40), .inl 0, .inr (0, 60), .inr (0, 60), .inr (0, 60), .inr (0, 60), .inr (0, 60), .inr (0, 30), .inr (0, 30), .inr (0, 30), .inr (0, 30), .inr (0, 24), .inr (0, 40), .inr (0, 40), .inr (0, 40), .inr (4, 2), .inr (2, 2), .inl 0, .inr (0, 60), .inr (0, 60), .inr (0, 60), .inr (0, 60), .inr (0, 60), .inr (0, 30), .inr (0, 30), .inr (0, 30), .inr (0, 30), .inr (0, 24), .inr (0, 40), .inr (0, 40), .inr (0, 40), .inl 0, .inr (0, 60), .inr (0, 60), .inr (0, 60), .inr (0, 60), .inr (0, 60), .inr (0, 30), .inr (0, 30), .inr (0, 30), .inr (0, 30), .inr (0, 24), .inr (0, 40), .inr (0, 40), .inr (0, 40), .inl 1, .inl 7, .inr (0, 10), .inr (0, 32), .inr (0, 30), .inr (0, 30), .inr (0, 25), .inl 2, .inr (0, 25), .inr (0, 156), .inr (0, 24), .inl 5, .inr (0, 25), .inr (0, 24), .inr (0, 25), .inl 9, .inr (0, 12), .inr (0, 24), .inr (0, 24), .inr (0, 3), .inr (0, 169), .inr (0, 169), .inl 4, .inr (0, 40), .inl 10, .inl 3, .inl 12, .inr (0, 2000), .inr (0, 2001), .inr (0, 2001), .inr (0, 2001), .inr (3, 2001), .inr (0, 2800), .inr (0, 4), .inr (0, 2000), .inr (0, 2000), .inr (0, 4), .inr (2, 800), .inr (0, 800), .inr (0, 800), .inr (0, 800), .inr (0, 800), .inr (0, 800), .inr (2, 4), .inr (3, 24), .inr (0, 500), .inr (0, 10), .inr (0, 500), .inr (0, 32), .inr (0, 32), .inr (0, 32), .inr (0, 32), .inr (0, 32), .inr (0, 32), .inr (0, 825), .inr (0, 32), .inr (0, 24), .inr (0, 24), .inr (0, 24), .inr (0, 24), .inr (0, 30)]
def w_At (b : Bool) : List (List (Option Nat)) := [[some 1, none, none, some 2, some 8, some 20, some 34, some 48, some 49, some 78, some 85, some 89, some 93, some 100, some 102, some 103],
  [],
  [some 3, some 4, some 5, some 6, some 7],
  [],
  [],
  [],
  [],
  [],
  [some 1, some 9, some 15, some 16, some 17, some 18, some 19],
  [some 10, some 11, some 12, some 13, some 14],
  [],
  [],
  [],
  [],
  [],
  [],
  [],
  [],
  [],
  [],
  [some 21, some 22, some 23, some 24, some 25, some 26, some 27, some 28, some 29, some 30, some 31, some 32, some 33],
  [],
  [],
  [],
  [],
  [],
  [],
  [],
  [],
  [],
  [],
  [],
  [],
  [],
  [some 35, some 36, some 37, some 38, some 39, some 40, some 41, some 42, some 43, some 44, some 45, some 46, some 47],
  [],
  [],
  [],
  [],
  [],
  [],
  [],
  [],
  [],
  [],
  [],
  [],
  [],
  [some 50, some 64],
  [],
  [some 51, some 52, some 53, some 54, some 55, some 56, some 57, some 58, some 59, some 60, some 61, some 62, some 63],
  [],
  [],
  [],
  [],
  [],
  [],
  [],
  [],
  [],
  [],
  [],
  [],
  [],
  [some 65, some 66, some 67, some 68, some 69, some 70, some 71, some 72, some 73, some 74, some 75, some 76, some 77],
  [],
  [],
  [],
  [],
  [],
  [],
  [],
  [],
  [],
  [],
  [],
  [],
  [],
  [some 2, some 20, some 79, some 82, some 83, some 84],
  [some 2, some 80, some 81],
  [],
  [],
  [],
  [],
  [],
  [some 78, some 86, some 87, some 88],
  [],
  [],
  [],
  [some 78, some 90, some 91, some 92],
  [],
  [],
  [],
  [some 78, some 94, some 95, some 96, some 97, none, (bif b then some 99 else some 98), (bif b then some 98 else some 99)],
  [],
  [],
  [],
  [],
  [],
  [],
  [some 78, some 34, some 101],
  [],
  [some 78],
  [some 78, some 85],
  [none, some 105, none, some 106, some 107, some 108, some 109, none, none, none, none, none, some 110, some 111, some 112, some 113, some 114, some 115, some 116, some 117, some 118, some 119, some 120, some 121, some 122, none, none, some 123, none, none, some 124, none, some 125, none, none, none, none, some 126, some 127, some 128, some 129, some 130, some 131, some 132, none, some 133, none, some 134, some 135, some 136, none, some 137, none, some 138],
  [],
  [],
  [],
  [],
  [],
  [],
  [],
  [],
  [],
  [],
  [],
  [],
  [],
  [],
  [],
  [],
  [],
  [],
  [],
  [],
  [],
  [],
  [],
  [],
  [],
  [],
  [],
  [],
  [],
  [],
  [],
  [],
  [],
  []]
def w_A (b : Bool) (a k : Nat) : Option Nat := match x_at (w_At b) a with
  | some l => (match x_at l k with
    | some r => r
    | none => none)
  | none => none
def w_ob (o c : Nat) : Bool := match x_at w_K o with
  | some (.inl c') => c' == c
  | _ => false
def w_ar (a : Nat) : Option (Nat × Nat) := match x_at w_K a with
  | some (.inr q) => some q
  | _ => none
def w_pv (v : Option Value) (r : List Value) : List Value := match v with
  | some v => v :: r
  | none => r
theorem w_ti {e : Int} (h : w_in e) : (Int32.ofInt e).toInt = e := Int32.toInt_ofInt_of_le (by have := h.1; omega) (by have := h.2; omega)
theorem w_tl {e : Int} (h : w_inl e) : (Int64.ofInt e).toInt = e := Int64.toInt_ofInt_of_le (by have := h.1; omega) (by have := h.2; omega)
theorem w_lt {a b : Int} (ha : w_in a) (hb : w_in b) : (Int32.ofInt a < Int32.ofInt b) ↔ a < b := by rw [Int32.lt_iff_toInt_lt, w_ti ha, w_ti hb]
theorem w_le {a b : Int} (ha : w_in a) (hb : w_in b) : (Int32.ofInt a ≤ Int32.ofInt b) ↔ a ≤ b := by rw [Int32.le_iff_toInt_le, w_ti ha, w_ti hb]
theorem w_eq {a b : Int} (ha : w_in a) (hb : w_in b) : (Int32.ofInt a = Int32.ofInt b) ↔ a = b := by rw [← Int32.toInt_inj, w_ti ha, w_ti hb]
theorem w_z : (0 : Int32) = Int32.ofInt 0 := rfl
theorem w_in0 : w_in 0 := by decide
theorem w_bnd (x : Int32) : w_in x.toInt := by
  have h1 := Int32.le_toInt x
  have h2 := Int32.toInt_lt x
  have e : Int32.minValue.toInt = -2147483648 := rfl
  constructor <;> omega
theorem w_tog {e : Int} {n : Nat} (h0 : 0 ≤ e) (h1 : e < n) (hn : Nat.ble n 100000 = true) : (Int32.ofInt e).toNatClampNeg = e.toNat ∧ ¬ (Int32.ofInt e < 0) ∧ e.toNat < n := by
  have hn := Nat.le_of_ble_eq_true hn
  have hi : w_in e := ⟨by omega, by omega⟩
  refine ⟨?_, ?_, by omega⟩
  · show (Int32.ofInt e).toInt.toNat = _
    rw [w_ti hi]
  · rw [w_z, w_lt hi w_in0]; omega
theorem w_hU {I : w_I} {a : Nat} {e v : Int} (h0 : 0 ≤ e) : x_u2 (w_h I) a e.toNat (Int32.ofInt v) = w_h (w_U I a e v) := by
  funext a' k'
  unfold x_u2 w_h w_U
  by_cases h : a' = a
  · simp only [if_pos h]
    by_cases hk : k' = e.toNat
    · rw [if_pos hk, if_pos (by omega)]
    · rw [if_neg hk, if_neg (by omega), h]
  · simp only [if_neg h]
theorem w_hUj {I : w_I} {a : Nat} {e v : Int} (h0 : 0 ≤ e) : x_u2 (w_hj I) a e.toNat (Int64.ofInt v) = w_hj (w_U I a e v) := by
  funext a' k'
  unfold x_u2 w_hj w_U
  by_cases h : a' = a
  · simp only [if_pos h]
    by_cases hk : k' = e.toNat
    · rw [if_pos hk, if_pos (by omega)]
    · rw [if_neg hk, if_neg (by omega), h]
  · simp only [if_neg h]
theorem w_hUk {I : w_I} {a k : Nat} {k' v : Int} (hk : ((k : Nat) : Int) = k') : x_u2 (w_h I) a k (Int32.ofInt v) = w_h (w_U I a k' v) := by
  subst hk
  have := w_hU (I := I) (a := a) (e := (k : Int)) (v := v) (by omega)
  rw [Int.toNat_natCast] at this
  exact this
theorem w_hc {I : w_I} {d s : Nat} {sp dp n : Int} (h1 : 0 ≤ sp) (h2 : 0 ≤ dp) (h3 : 0 ≤ n) : x_u1 (w_h I) d (va_cpy (w_h I s) (w_h I d) sp.toNat dp.toNat n.toNat) = w_h (w_cp I d s sp dp n) := by
  funext a' k'
  unfold x_u1 va_cpy w_h w_cp
  by_cases h : a' = d
  · simp only [if_pos h]
    by_cases hk : dp.toNat ≤ k' ∧ k' < dp.toNat + n.toNat
    · rw [if_pos hk, if_pos (by omega)]
      rw [show ((sp.toNat + (k' - dp.toNat) : Nat) : Int) = sp + ((k' : Int) - dp) by omega]
    · rw [if_neg hk, if_neg (by omega), h]
  · simp only [if_neg h]
/-- a run from a frame, with a postcondition -/
def w_T (xs : Nat → Int32) (xl y pc : Nat) (L : x_L) (M : x_J) (S : List Value) (I J : w_I) (b : Bool) (Q : Option Value → w_I → w_I → Bool → Prop) : Prop :=
  ∃ n v I' J' b', x_ex xs xl n (y, pc, L, M, S) (w_K, w_h I, w_hj J, w_A b) = some (v, (w_K, w_h I', w_hj J', w_A b')) ∧ Q v I' J' b'
/-- a call -/
def w_C (xs : Nat → Int32) (xl z : Nat) (As : List Value) (I J : w_I) (b : Bool) (Q : Option Value → w_I → w_I → Bool → Prop) : Prop :=
  ∃ n f v I' J' b', x_en z As = some f ∧ x_ex xs xl n f (w_K, w_h I, w_hj J, w_A b) = some (v, (w_K, w_h I', w_hj J', w_A b')) ∧ Q v I' J' b'
section WT
variable {xs : Nat → Int32} {xl y pc : Nat} {L : x_L} {M : x_J} {S : List Value} {I J : w_I} {b : Bool} {Q : Option Value → w_I → w_I → Bool → Prop}
theorem w_fuel1 : ∀ (n : Nat) (f : x_F) (h : x_H) (r : Option Value × x_H), x_ex xs xl n f h = some r → x_ex xs xl (n + 1) f h = some r
  | 0, f, h, r, e => by cases e
  | n + 1, f, h, r, e => by
    unfold x_ex at e ⊢
    split at e
    · cases e
    · rename_i f' h' hs
      exact w_fuel1 n f' h' r e
    · rename_i r' hs
      exact e
    · rename_i z As f' h' hs
      split at e
      · cases e
      · rename_i f0 hf0
        split at e
        · cases e
        · rename_i v h2 he
          simp only [w_fuel1 n f0 h' _ he]
          exact w_fuel1 n _ h2 r e
theorem w_fuel {n k : Nat} {f : x_F} {h : x_H} {r : Option Value × x_H} (e : x_ex xs xl n f h = some r) (hk : n ≤ k) : x_ex xs xl k f h = some r := by
  obtain ⟨d, rfl⟩ := Nat.le.dest hk
  clear hk
  induction d with
  | zero => exact e
  | succ d ih => exact w_fuel1 _ f h r ih
theorem w_st {e : x_E} {h : x_H} {r : Option x_O} (hi : x_ins y pc = some e) (hk : x_lok e = true) (ho : x_op xs xl y pc L M S h e = r) : x_st xs xl (y, pc, L, M, S) h = r := by
  unfold x_st
  simp only [hi, hk]
  exact ho
theorem w_go {e : x_E} {pc' : Nat} {L' : x_L} {M' : x_J} {S' : List Value} {I' J' : w_I} {b' : Bool} (hi : x_ins y pc = some e) (hk : x_lok e = true)
    (ho : x_op xs xl y pc L M S (w_K, w_h I, w_hj J, w_A b) e = some (.inl ((y, pc', L', M', S'), (w_K, w_h I', w_hj J', w_A b'))))
    (t : w_T xs xl y pc' L' M' S' I' J' b' Q) : w_T xs xl y pc L M S I J b Q := by
  obtain ⟨n, v, I1, J1, b1, he, hq⟩ := t
  refine ⟨n + 1, v, I1, J1, b1, ?_, hq⟩
  unfold x_ex
  rw [w_st hi hk ho]
  exact he
theorem w_mono {Q' : Option Value → w_I → w_I → Bool → Prop} (t : w_T xs xl y pc L M S I J b Q) (hq : ∀ v I J b, Q v I J b → Q' v I J b) : w_T xs xl y pc L M S I J b Q' := by
  obtain ⟨n, v, I1, J1, b1, he, h⟩ := t
  exact ⟨n, v, I1, J1, b1, he, hq _ _ _ _ h⟩
theorem w_Cmono {z : Nat} {As : List Value} {Q' : Option Value → w_I → w_I → Bool → Prop} (t : w_C xs xl z As I J b Q) (hq : ∀ v I J b, Q v I J b → Q' v I J b) : w_C xs xl z As I J b Q' := by
  obtain ⟨n, f, v, I1, J1, b1, hf, he, h⟩ := t
  exact ⟨n, f, v, I1, J1, b1, hf, he, hq _ _ _ _ h⟩
theorem w_en {z : Nat} {As : List Value} (h : x_en z As = some (z, 0, L, M, [])) (t : w_T xs xl z 0 L M [] I J b Q) : w_C xs xl z As I J b Q := by
  obtain ⟨n, v, I1, J1, b1, he, hq⟩ := t
  exact ⟨n, _, v, I1, J1, b1, h, he, hq⟩
/-- a call and what follows -/
theorem w_cl {e : x_E} {z : Nat} {As r : List Value} {pc' : Nat} (hi : x_ins y pc = some e) (hk : x_lok e = true)
    (ho : x_op xs xl y pc L M S (w_K, w_h I, w_hj J, w_A b) e = some (.inr (.inr ((z, As), (y, pc', L, M, r), (w_K, w_h I, w_hj J, w_A b)))))
    (t : w_C xs xl z As I J b (fun v I J b => w_T xs xl y pc' L M (w_pv v r) I J b Q)) : w_T xs xl y pc L M S I J b Q := by
  obtain ⟨n, f, v, I1, J1, b1, hf, he, n2, v2, I2, J2, b2, he2, hq⟩ := t
  refine ⟨n + n2 + 1, v2, I2, J2, b2, ?_, hq⟩
  unfold x_ex
  rw [w_st hi hk ho]
  simp only [hf, w_fuel he (Nat.le_add_right n n2)]
  have q := w_fuel he2 (Nat.le_add_left n2 n)
  cases v <;> exact q
theorem w_rt {e : x_E} {v : Option Value} (hi : x_ins y pc = some e) (hk : x_lok e = true)
    (ho : x_op xs xl y pc L M S (w_K, w_h I, w_hj J, w_A b) e = some (.inr (.inl (v, (w_K, w_h I, w_hj J, w_A b))))) (t : Q v I J b) : w_T xs xl y pc L M S I J b Q := by
  refine ⟨1, v, I, J, b, ?_, t⟩
  unfold x_ex
  rw [w_st hi hk ho]
end WT
end
