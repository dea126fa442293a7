section
/-! the one String: its length, its signs -/
section JS
variable {xs : Nat → Int32} {xl y pc : Nat} {L : x_L} {M : x_J} {S : List Value} {I J : w_I} {b : Bool} {Q : Option Value → w_I → w_I → Bool → Prop}
theorem w_gfS {b1 p1 q1 q idx : Nat} (hi : x_ins y pc = some (.getfield idx, 3, 9991, b1, p1, q1)) (hp : pc + 3 = q) (t : w_T xs xl y q L M (.ref x_SV :: S) I J b Q) : w_T xs xl y pc L M (.ref x_ST :: S) I J b Q := by
  subst hp
  exact w_go hi rfl rfl t
theorem w_gfC {b1 p1 q1 q idx : Nat} (hi : x_ins y pc = some (.getfield idx, 3, 9992, b1, p1, q1)) (hp : pc + 3 = q) (t : w_T xs xl y q L M (w_i 0 :: S) I J b Q) : w_T xs xl y pc L M (.ref x_ST :: S) I J b Q := by
  subst hp
  exact w_go hi rfl rfl t
theorem w_gs1 {b1 p1 q1 q idx : Nat} (hi : x_ins y pc = some (.getstatic idx, 3, 1, b1, p1, q1)) (hp : pc + 3 = q) (t : w_T xs xl y q L M (w_i 1 :: S) I J b Q) : w_T xs xl y pc L M S I J b Q := by
  subst hp
  exact w_go hi rfl rfl t
theorem w_gs2 {b1 p1 q1 q idx : Nat} (hi : x_ins y pc = some (.getstatic idx, 3, 2, b1, p1, q1)) (hp : pc + 3 = q) (t : w_T xs xl y q L M (.ref x_SF :: S) I J b Q) : w_T xs xl y pc L M S I J b Q := by
  subst hp
  exact w_go hi rfl rfl t
theorem w_alS {a1 b1 p1 q1 q : Nat} (hi : x_ins y pc = some (.arraylength, 1, a1, b1, p1, q1)) (hp : pc + 1 = q) (t : w_T xs xl y q L M (w_i 133 :: S) I J b Q) : w_T xs xl y pc L M (.ref x_SV :: S) I J b Q := by
  subst hp
  exact w_go hi rfl rfl t
/-- the k-th sign of the words' text -/
def t_wx (k : Int) : Int := (x_wb.getD k.toNat 0).toInt
theorem w_baS {a1 b1 p1 q1 q : Nat} {e : Int} (hi : x_ins y pc = some (.baload, 1, a1, b1, p1, q1)) (hp : pc + 1 = q) (he : 0 ≤ e ∧ e < (133 : Nat)) (t : w_T xs xl y q L M (w_i (t_wx e) :: S) I J b Q) : w_T xs xl y pc L M (w_i e :: .ref x_SV :: S) I J b Q := by
  subst hp
  refine w_go hi rfl ?_ t
  show x_in? (Int32.ofInt e) x_wl (x_go y (pc + 1) L M (.int (x_wb.getD (Int32.ofInt e).toNatClampNeg 0) :: S) _) = _
  rw [show x_wl = 133 from rfl, w_inq he rfl, w_tn he rfl]
  show x_go y (pc + 1) L M (.int (x_wb.getD e.toNat 0) :: S) _ = x_go y (pc + 1) L M (w_i (t_wx e) :: S) _
  unfold w_i t_wx
  rw [Int32.ofInt_toInt]
def w_ch (c : Int) : Int := ((Int32.ofInt c).toUInt32 % 65536).toInt32.toInt
theorem w_i2c {a1 b1 p1 q1 q : Nat} {c : Int} (hi : x_ins y pc = some (.i2c, 1, a1, b1, p1, q1)) (hp : pc + 1 = q) (t : w_T xs xl y q L M (w_i (w_ch c) :: S) I J b Q) : w_T xs xl y pc L M (w_i c :: S) I J b Q := by
  subst hp
  refine w_go hi rfl ?_ t
  show x_go y (pc + 1) L M (.int ((Int32.ofInt c).toUInt32 % 65536).toInt32 :: S) _ = x_go y (pc + 1) L M (w_i (w_ch c) :: S) _
  unfold w_i w_ch
  rw [Int32.ofInt_toInt]
end JS
variable {xs : Nat → Int32} {xl : Nat} {I J : w_I} {b : Bool} {Q : Option Value → w_I → w_I → Bool → Prop}
theorem t_wx_ch : ∀ k : Nat, k < 133 → w_ch (w_and (t_wx k) 255) = t_wx k := by decide +kernel
theorem t_wx_ok : ∀ k : Nat, k < 133 → x_nok (some .char) (Int32.ofInt (t_wx k)) = true := by decide +kernel
theorem t_wx_in (k : Int) : w_in (t_wx k) := w_bnd _
theorem c291 (k : Q (some (w_i 0)) I J b) : w_C xs xl 291 [.ref x_ST] I J b Q := by
  refine w_en rfl ?_
  refine w_gs1 (q := 3) rfl rfl ?_
  refine w_zeq (t := 13) (q := 6) rfl rfl rfl (by decide) (fun h => by omega) (fun _ => ?_)
  refine w_aload_n (q := 7) rfl rfl rfl ?_
  refine w_gfC (q := 10) rfl rfl ?_
  refine w_goto (t := 14) rfl rfl ?_
  exact w_iret rfl rfl k
theorem c292 (k : Q (some (w_i 1)) I J b) : w_C xs xl 292 [.ref x_ST] I J b Q := by
  refine w_en rfl ?_
  refine w_gs1 (q := 3) rfl rfl ?_
  refine w_zeq (t := 17) (q := 6) rfl rfl rfl (by decide) (fun h => by omega) (fun _ => ?_)
  refine w_aload_n (q := 7) rfl rfl rfl ?_
  refine w_gfC (q := 10) rfl rfl ?_
  refine w_zne (t := 17) (q := 13) rfl rfl rfl (by decide) (fun h => absurd rfl h) (fun _ => ?_)
  refine w_iconst (q := 14) rfl rfl ?_
  refine w_goto (t := 18) rfl rfl ?_
  exact w_iret rfl rfl k
theorem c289 (k : Q (some (w_i 133)) I J b) : w_C xs xl 289 [.ref x_ST] I J b Q := by
  refine w_en rfl ?_
  refine w_aload_n (q := 1) rfl rfl rfl ?_
  refine w_gfS (q := 4) rfl rfl ?_
  refine w_alS (q := 5) rfl rfl ?_
  refine w_aload_n (q := 6) rfl rfl rfl ?_
  refine w_callS (q := 9) rfl rfl rfl rfl ?_
  refine c291 ?_
  refine w_ishr (q := 10) rfl rfl ?_
  rw [show w_shr 133 0 = 133 from by decide +kernel]
  exact w_iret rfl rfl k
theorem c296 {e : Int} (he : 0 ≤ e ∧ e < 133) (k : Q (some (w_i e)) I J b) : w_C xs xl 296 [w_i e, w_i 133, .ref x_SF] I J b Q := by
  refine w_en rfl ?_
  refine w_iload_n (q := 1) rfl rfl rfl ?_
  refine w_zlt (t := 9) (q := 4) rfl rfl rfl ⟨by omega, by omega⟩ (fun h => by omega) (fun _ => ?_)
  refine w_iload_n (q := 5) rfl rfl rfl ?_
  refine w_iload_n (q := 6) rfl rfl rfl ?_
  refine w_clt (t := 16) (q := 9) rfl rfl rfl ⟨by omega, by omega⟩ (by decide) (fun _ => ?_) (fun h => by omega)
  refine w_iload_n (q := 17) rfl rfl rfl ?_
  exact w_iret rfl rfl k
theorem c293 {e : Int} (he : 0 ≤ e ∧ e < 133) (k : Q none I J b) : w_C xs xl 293 [w_i e, w_i 133] I J b Q := by
  refine w_en rfl ?_
  refine w_iload_n (q := 1) rfl rfl rfl ?_
  refine w_iload_n (q := 2) rfl rfl rfl ?_
  refine w_gs2 (q := 5) rfl rfl ?_
  refine w_call (q := 8) rfl rfl rfl rfl rfl ?_
  refine c296 he ?_
  refine w_pop (q := 9) rfl rfl rfl ?_
  exact w_vret rfl k
theorem c294 {e : Int} (he : 0 ≤ e ∧ e < 133) (k : Q (some (w_i (t_wx e))) I J b) : w_C xs xl 294 [.ref x_SV, w_i e] I J b Q := by
  have h1 := t_wx_ch e.toNat (by omega)
  have h2 := t_wx_ok e.toNat (by omega)
  rw [show ((e.toNat : Nat) : Int) = e by omega] at h1 h2
  refine w_en rfl ?_
  refine w_iload_n (q := 1) rfl rfl rfl ?_
  refine w_aload_n (q := 2) rfl rfl rfl ?_
  refine w_alS (q := 3) rfl rfl ?_
  refine w_call (q := 6) rfl rfl rfl rfl rfl ?_
  refine c293 he ?_
  refine w_aload_n (q := 7) rfl rfl rfl ?_
  refine w_iload_n (q := 8) rfl rfl rfl ?_
  refine w_baS (q := 9) rfl rfl ⟨he.1, by omega⟩ ?_
  refine w_sipush (q := 12) rfl rfl rfl ?_
  refine w_iand (q := 13) rfl rfl ?_
  refine w_i2c (q := 14) rfl rfl ?_
  rw [h1]
  exact w_iret rfl h2 k
theorem c290 {e : Int} (he : 0 ≤ e ∧ e < 133) (k : Q (some (w_i (t_wx e))) I J b) : w_C xs xl 290 [.ref x_ST, w_i e] I J b Q := by
  have h2 := t_wx_ok e.toNat (by omega)
  rw [show ((e.toNat : Nat) : Int) = e by omega] at h2
  refine w_en rfl ?_
  refine w_aload_n (q := 1) rfl rfl rfl ?_
  refine w_callS (q := 4) rfl rfl rfl rfl ?_
  refine c292 ?_
  refine w_zeq (t := 16) (q := 7) rfl rfl rfl (by decide) (fun h => by omega) (fun _ => ?_)
  refine w_aload_n (q := 8) rfl rfl rfl ?_
  refine w_gfS (q := 11) rfl rfl ?_
  refine w_iload_n (q := 12) rfl rfl rfl ?_
  refine w_call (q := 15) rfl rfl rfl rfl rfl ?_
  refine c294 he ?_
  exact w_iret rfl h2 k
end
