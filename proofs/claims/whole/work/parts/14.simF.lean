/-! a step of the abstract machine that is no call and no return -/
section XSIM
variable {p : Program} {l : Launch} {e : Env} {R : Room} {s : State} {m : MethodId} {args : Array Value} {below : List Frame} {meth : Method} {c : Code} {Q : State → Prop}
variable {base b xl sa sv : Nat} {xs : Nat → Int32} {fv : Value} {D : va_G} {dA : Nat → ClassId} {n0 w0 nL : Nat} {mm : x_M}
variable {y pc : Nat} {L : x_L} {M : x_J} {S : List Value} {h h' : x_H} {f' : x_F}
theorem x_tg_eq {off : Int} {t : Nat} (h : x_tg pc off = some t) : (pc : Int) + off = (t : Int) := by
  unfold x_tg at h
  split at h
  · rename_i q
    cases h
    exact (Int.toNat_of_nonneg q).symm
  · cases h
theorem x_kbr {P : Prop} [Decidable P] {S' : List Value} {t : Nat} (row : ∀ (H : Heap) (locs : List Loc) (ls : Array Slot) (cells slots : Nat), (P → W p l e R s m args below meth c H locs cells slots Q (F0 m t ls (S'.map (x_tr base b sa sv fv)))) → (¬ P → W p l e R s m args below meth c H locs cells slots Q (F0 m (pc + 3) ls (S'.map (x_tr base b sa sv fv)))) → W p l e R s m args below meth c H locs cells slots Q (F0 m pc ls (S.map (x_tr base b sa sv fv))))
    (hst : (if P then x_go y t L M S' h else x_go y (pc + 3) L M S' h) = some (.inl (f', h'))) (kk : x_Kp p l e R s m args below meth c Q base b sa sv fv D dA n0 w0 nL f' h') : x_Kp p l e R s m args below meth c Q base b sa sv fv D dA n0 w0 nL (y, pc, L, M, S) h := by
  by_cases hP : P
  · rw [if_pos hP] at hst
    obtain ⟨rfl, rfl⟩ := x_go_inj hst
    intro H locs ls cells slots hR
    exact row H locs ls cells slots (fun _ => kk H locs ls cells slots hR) (fun n => absurd hP n)
  · rw [if_neg hP] at hst
    obtain ⟨rfl, rfl⟩ := x_go_inj hst
    intro H locs ls cells slots hR
    exact row H locs ls cells slots (fun n => absurd n hP) (fun _ => kk H locs ls cells slots hR)
theorem x_li_s {i : Nat} {v : Value} (h : x_li L i = some v) : ∃ x, v = .int x ∧ x_lg L i = some (.int x) := by
  unfold x_li at h
  split at h
  · rename_i x hx
    cases h
    exact ⟨x, rfl, hx⟩
  · cases h
theorem x_la_s {i : Nat} {v : Value} (h : x_la L i = some v) : ∃ x, v = .ref x ∧ x ≠ x_SF ∧ x_lg L i = some (.ref x) := by
  unfold x_la at h
  split at h
  · rename_i x hx
    split at h
    · cases h
    · rename_i hn
      split at h
      · cases h
        exact ⟨x, rfl, hn, hx⟩
      · cases h
  · cases h
theorem x_lj_s {i : Nat} {v : Value} (h : x_lj M i = some v) : ∃ x, v = .long x ∧ x_jg M i = some x := by
  unfold x_lj at h
  split at h
  · rename_i x hx
    cases h
    exact ⟨x, rfl, hx⟩
  · cases h
/-- a reference that is not the one which may be null -/
theorem x_tr_ref {j : Nat} (h : j ≠ x_SF) (hj : j < 100004) : ∃ a : Nat, x_tr base b sa sv fv (.ref j) = .ref a := by
  by_cases h1 : j < 100000
  · exact ⟨_, x_tr_lt h1⟩
  · have h3 : j ≠ 100003 := h
    have h2 : j = 100000 ∨ j = 100001 ∨ j = 100002 := by omega
    rcases h2 with rfl | rfl | rfl
    · exact ⟨b, rfl⟩
    · exact ⟨sa, rfl⟩
    · exact ⟨sv, rfl⟩
theorem x_la_lt {i : Nat} {x : Nat} (h : x_la L i = some (.ref x)) : x < 100004 := by
  unfold x_la at h
  split at h
  · rename_i x' hx
    split at h
    · cases h
    · split at h
      · cases h
        assumption
      · cases h
  · cases h
theorem x_callv_ne {z n : Nat} : x_callv y pc L M S h z n ≠ some (.inl (f', h')) := by
  unfold x_callv
  intro q
  repeat' split at q
  all_goals cases q
theorem x_calld_ne {z n k : Nat} : x_calld y pc L M S h z n k ≠ some (.inl (f', h')) := by
  unfold x_calld
  intro q
  repeat' split at q
  all_goals cases q
theorem x_call_ne {z n : Nat} : x_call y pc L M S h z n ≠ some (.inl (f', h')) := by
  unfold x_call
  intro q
  repeat' split at q
  all_goals cases q
theorem x_iret_ne : x_iret y S h ≠ some (.inl (f', h')) := by
  unfold x_iret
  intro q
  repeat' split at q
  all_goals cases q
theorem x_jret_ne : x_jret S h ≠ some (.inl (f', h')) := by
  unfold x_jret
  intro q
  repeat' split at q
  all_goals cases q
theorem x_vret_ne : x_vret S h ≠ some (.inl (f', h')) := by
  unfold x_vret
  intro q
  repeat' split at q
  all_goals cases q
set_option maxHeartbeats 4000000 in
theorem x_step (C : x_Cx p R s m args meth c base b xl sa sv xs fv D dA n0 nL mm) (hy : x_m y = some mm) {e0 : x_E} (ok : x_okb y pc e0 = true) (hlen : x_lok e0 = true) (hB : h'.1.length ≤ n0 + R.cells ∧ x_wt h'.1 ≤ w0 + R.slots) (hst : x_op xs xl y pc L M S h e0 = some (.inl (f', h'))) (kk : x_Kp p l e R s m args below meth c Q base b sa sv fv D dA n0 w0 nL f' h') : x_Kp p l e R s m args below meth c Q base b sa sv fv D dA n0 w0 nL (y, pc, L, M, S) h := by
  obtain ⟨ins, len, a, bb, pl, q⟩ := e0
  unfold x_okb at ok
  rw [hy] at ok
  simp only [Bool.and_eq_true, decide_eq_true_eq] at ok
  obtain ⟨hd, ok⟩ := ok
  obtain ⟨hx, hb, hml, hown, hts, hnm, hG, hfr, hlo, hz1, hz2⟩ := id C
  have hf := hG.2.2.2.2.2.2.2.2.2.2.1
  cases ins
  case aload_n k =>
    have hln : len = 1 := Nat.eq_of_beq_eq_true hlen
    subst hln
    have hs : x_psh y (pc + 1) L M S h (x_la L (k : Nat)) = some (.inl (f', h')) := hst
    refine x_kpsh (fun v hv H locs ls cells slots r hl k1 => ?_) hs kk
    obtain ⟨x, rfl, hne, hx1⟩ := x_la_s hv
    have hat := hl.at hx1
    obtain ⟨z, hz⟩ := x_tr_ref (base := base) (b := b) (sa := sa) (sv := sv) (fv := fv) hne (x_la_lt hv)
    rw [hz] at hat k1
    exact lv_aload_n hx hb hd rfl hat k1
  case aload k =>
    have hln : len = 2 := Nat.eq_of_beq_eq_true hlen
    subst hln
    have hs : x_psh y (pc + 2) L M S h (x_la L k) = some (.inl (f', h')) := hst
    refine x_kpsh (fun v hv H locs ls cells slots r hl k1 => ?_) hs kk
    obtain ⟨x, rfl, hne, hx1⟩ := x_la_s hv
    have hat := hl.at hx1
    obtain ⟨z, hz⟩ := x_tr_ref (base := base) (b := b) (sa := sa) (sv := sv) (fv := fv) hne (x_la_lt hv)
    rw [hz] at hat k1
    exact lv_aload hx hb hd hat k1
  case iload_n k =>
    have hln : len = 1 := Nat.eq_of_beq_eq_true hlen
    subst hln
    have hs : x_psh y (pc + 1) L M S h (x_li L (k : Nat)) = some (.inl (f', h')) := hst
    refine x_kpsh (fun v hv H locs ls cells slots r hl k1 => ?_) hs kk
    obtain ⟨x, rfl, hx1⟩ := x_li_s hv
    exact lv_iload_n hx hb hd rfl (hl.at hx1) k1
  case iload k =>
    have hln : len = 2 := Nat.eq_of_beq_eq_true hlen
    subst hln
    have hs : x_psh y (pc + 2) L M S h (x_li L k) = some (.inl (f', h')) := hst
    refine x_kpsh (fun v hv H locs ls cells slots r hl k1 => ?_) hs kk
    obtain ⟨x, rfl, hx1⟩ := x_li_s hv
    exact lv_iload hx hb hd (hl.at hx1) k1
  case lload_n k =>
    have hln : len = 1 := Nat.eq_of_beq_eq_true hlen
    subst hln
    have hs : x_psh y (pc + 1) L M S h (x_lj M (k : Nat)) = some (.inl (f', h')) := hst
    refine x_kpsh (fun v hv H locs ls cells slots r hl k1 => ?_) hs kk
    obtain ⟨x, rfl, hx1⟩ := x_lj_s hv
    exact lv_lload_n hx hb hd rfl (hl.atj hx1) k1
  case lload k =>
    have hln : len = 2 := Nat.eq_of_beq_eq_true hlen
    subst hln
    have hs : x_psh y (pc + 2) L M S h (x_lj M k) = some (.inl (f', h')) := hst
    refine x_kpsh (fun v hv H locs ls cells slots r hl k1 => ?_) hs kk
    obtain ⟨x, rfl, hx1⟩ := x_lj_s hv
    exact lv_lload hx hb hd (hl.atj hx1) k1
  case istore_n k =>
    have hln : len = 1 := Nat.eq_of_beq_eq_true hlen
    subst hln
    have hs : x_si y (pc + 1) (k : Nat) L M S h = some (.inl (f', h')) := hst
    exact x_ksi (fun u H locs ls cells slots r hi hl k1 => lv_istore_n hx hb hd rfl hl hi rfl k1) hf hs kk
  case istore k =>
    have hln : len = 2 := Nat.eq_of_beq_eq_true hlen
    subst hln
    have hs : x_si y (pc + 2) k L M S h = some (.inl (f', h')) := hst
    exact x_ksi (fun u H locs ls cells slots r hi hl k1 => lv_istore hx hb hd hl hi rfl k1) hf hs kk
  case astore_n k =>
    have hln : len = 1 := Nat.eq_of_beq_eq_true hlen
    subst hln
    have hs : x_sa y (pc + 1) (k : Nat) L M S h = some (.inl (f', h')) := hst
    exact x_ksa (fun u H locs ls cells slots r hi hl k1 => lv_astore_n hx hb hd rfl hl hi rfl k1) hf hs kk
  case astore k =>
    have hln : len = 2 := Nat.eq_of_beq_eq_true hlen
    subst hln
    have hs : x_sa y (pc + 2) k L M S h = some (.inl (f', h')) := hst
    exact x_ksa (fun u H locs ls cells slots r hi hl k1 => lv_astore hx hb hd hl hi rfl k1) hf hs kk
  case lstore_n k =>
    have hln : len = 1 := Nat.eq_of_beq_eq_true hlen
    subst hln
    have hs : x_sj y (pc + 1) (k : Nat) L M S h = some (.inl (f', h')) := hst
    exact x_ksj (fun u H locs ls cells slots r hi hl k1 => lv_lstore_n hx hb hd rfl hl hi rfl k1) hf hs kk
  case lstore k =>
    have hln : len = 2 := Nat.eq_of_beq_eq_true hlen
    subst hln
    have hs : x_sj y (pc + 2) k L M S h = some (.inl (f', h')) := hst
    exact x_ksj (fun u H locs ls cells slots r hi hl k1 => lv_lstore hx hb hd hl hi rfl k1) hf hs kk
  case iinc i n =>
    have hln : len = 3 := Nat.eq_of_beq_eq_true hlen
    subst hln
    have hs : x_inc y pc i n L M S h = some (.inl (f', h')) := hst
    unfold x_inc at hs
    split at hs
    · rename_i x hxl
      split at hs
      · rename_i hi
        obtain ⟨rfl, rfl⟩ := x_go_inj hs
        intro H locs ls cells slots hR
        obtain ⟨h1, h2, h3, h4, h5⟩ := hR
        obtain ⟨k0, hk0⟩ := List.getElem?_of_mem (x_lv_mem.mpr (Or.inl ⟨_, hxl, rfl⟩) : (i, x_tr base b sa sv fv (.int x)) ∈ x_lv (x_tr base b sa sv fv) L M)
        refine lv_iinc (k := k0) (v := x + Int32.ofInt n) hx hb hd h4.1 hk0 rfl (by rw [← h4.2]; exact hi) rfl (fun ls' hl' => ?_)
        exact kk H locs ls' cells slots ⟨h1, h2, h3, x_LR_s1 (v := .int (x + Int32.ofInt n)) h4.2 (x_tr_cat hf) hl' _ (x_set_len _ _ _) (fun j w => x_lg_s1), h5⟩
      · cases hs
    · cases hs
  case iconst n =>
    have hln : len = 1 := Nat.eq_of_beq_eq_true hlen
    subst hln
    have hs : x_go y (pc + 1) L M (.int (Int32.ofInt n) :: S) h = some (.inl (f', h')) := hst
    exact x_kgo (fun H locs ls cells slots hl k1 => lv_iconst hx hb hd rfl k1) hs kk
  case bipush n =>
    have hln : len = 2 := Nat.eq_of_beq_eq_true hlen
    subst hln
    have hs : x_go y (pc + 2) L M (.int (Int8.ofInt n).toInt32 :: S) h = some (.inl (f', h')) := hst
    exact x_kgo (fun H locs ls cells slots hl k1 => lv_bipush hx hb hd rfl k1) hs kk
  case sipush n =>
    have hln : len = 3 := Nat.eq_of_beq_eq_true hlen
    subst hln
    have hs : x_go y (pc + 3) L M (.int (Int16.ofInt n).toInt32 :: S) h = some (.inl (f', h')) := hst
    exact x_kgo (fun H locs ls cells slots hl k1 => lv_sipush hx hb hd rfl k1) hs kk
  case lconst n =>
    have hln : len = 1 := Nat.eq_of_beq_eq_true hlen
    subst hln
    have hs : x_go y (pc + 1) L M (.long (Int64.ofNat (n : Nat)) :: S) h = some (.inl (f', h')) := hst
    exact x_kgo (fun H locs ls cells slots hl k1 => lv_lconst hx hb hd rfl k1) hs kk
  case ldc i =>
    have hln : len = 2 := Nat.eq_of_beq_eq_true hlen
    subst hln
    unfold x_op at hst
    simp only at hst
    unfold x_okz at ok
    simp only at ok
    split at hst
    · simp only [Bool.and_eq_true, decide_eq_true_eq] at ok
      obtain ⟨o1, o2⟩ := ok
      subst o2
      rw [o1] at hown
      exact x_kgo (fun H locs ls cells slots hl k1 => va_ldcS hx hb hown hG.2.2.2.1 hd k1) hst kk
    · rename_i hq
      split at ok
      · exact absurd rfl hq
      · exact x_kgo (fun H locs ls cells slots hl k1 => lv_ldc hx hb hown (hts _ (x_tg_s ok rfl)) hd k1) hst kk
  case ldc_w i =>
    have hln : len = 3 := Nat.eq_of_beq_eq_true hlen
    subst hln
    have hs : x_go y (pc + 3) L M (.int (Int32.ofNat a) :: S) h = some (.inl (f', h')) := hst
    exact x_kgo (fun H locs ls cells slots hl k1 => lv_ldcw hx hb hown (hts _ (x_tg_s ok rfl)) hd k1) hs kk
  case ldc2_w i =>
    have hln : len = 3 := Nat.eq_of_beq_eq_true hlen
    subst hln
    have hs : x_go y (pc + 3) L M (.long (if bb = 1 then Int64.ofInt (-(a : Int)) else Int64.ofInt (a : Int)) :: S) h = some (.inl (f', h')) := hst
    exact x_kgo (fun H locs ls cells slots hl k1 => lv_ldc2 hx hb hown (hts _ (x_tg_s ok rfl)) hd k1) hs kk
  case iadd =>
    have hln : len = 1 := Nat.eq_of_beq_eq_true hlen
    subst hln
    have hs : x_bin y pc L M S h (fun a b => some (a + b)) = some (.inl (f', h')) := hst
    exact x_kbin (fun u v w hw H locs ls cells slots r k1 => by cases hw; exact lv_iadd hx hb hd k1) hs kk
  case isub =>
    have hln : len = 1 := Nat.eq_of_beq_eq_true hlen
    subst hln
    have hs : x_bin y pc L M S h (fun a b => some (a - b)) = some (.inl (f', h')) := hst
    exact x_kbin (fun u v w hw H locs ls cells slots r k1 => by cases hw; exact lv_isub hx hb hd k1) hs kk
  case imul =>
    have hln : len = 1 := Nat.eq_of_beq_eq_true hlen
    subst hln
    have hs : x_bin y pc L M S h (fun a b => some (a * b)) = some (.inl (f', h')) := hst
    exact x_kbin (fun u v w hw H locs ls cells slots r k1 => by cases hw; exact lv_imul hx hb hd k1) hs kk
  case iand =>
    have hln : len = 1 := Nat.eq_of_beq_eq_true hlen
    subst hln
    have hs : x_bin y pc L M S h (fun a b => some (a &&& b)) = some (.inl (f', h')) := hst
    exact x_kbin (fun u v w hw H locs ls cells slots r k1 => by cases hw; exact lv_iand hx hb hd k1) hs kk
  case ior =>
    have hln : len = 1 := Nat.eq_of_beq_eq_true hlen
    subst hln
    have hs : x_bin y pc L M S h (fun a b => some (a ||| b)) = some (.inl (f', h')) := hst
    exact x_kbin (fun u v w hw H locs ls cells slots r k1 => by cases hw; exact lv_ior hx hb hd k1) hs kk
  case ixor =>
    have hln : len = 1 := Nat.eq_of_beq_eq_true hlen
    subst hln
    have hs : x_bin y pc L M S h (fun a b => some (a ^^^ b)) = some (.inl (f', h')) := hst
    exact x_kbin (fun u v w hw H locs ls cells slots r k1 => by cases hw; exact lv_ixor hx hb hd k1) hs kk
  case ishl =>
    have hln : len = 1 := Nat.eq_of_beq_eq_true hlen
    subst hln
    have hs : x_bin y pc L M S h (fun a b => some (a <<< (b &&& 31))) = some (.inl (f', h')) := hst
    exact x_kbin (fun u v w hw H locs ls cells slots r k1 => by cases hw; exact lv_ishl hx hb hd k1) hs kk
  case ishr =>
    have hln : len = 1 := Nat.eq_of_beq_eq_true hlen
    subst hln
    have hs : x_bin y pc L M S h (fun a b => some (a >>> (b &&& 31))) = some (.inl (f', h')) := hst
    exact x_kbin (fun u v w hw H locs ls cells slots r k1 => by cases hw; exact lv_ishr hx hb hd k1) hs kk
  case iushr =>
    have hln : len = 1 := Nat.eq_of_beq_eq_true hlen
    subst hln
    have hs : x_bin y pc L M S h (fun a b => some (a.toUInt32 >>> (b.toUInt32 &&& Int32.toUInt32 31)).toInt32) = some (.inl (f', h')) := hst
    exact x_kbin (fun u v w hw H locs ls cells slots r k1 => by cases hw; exact lv_iushr hx hb hd rfl k1) hs kk
  case idiv =>
    have hln : len = 1 := Nat.eq_of_beq_eq_true hlen
    subst hln
    have hs : x_bin y pc L M S h (fun a b => if b = 0 then none else some (a / b)) = some (.inl (f', h')) := hst
    refine x_kbin (fun u v w hw H locs ls cells slots r k1 => ?_) hs kk
    split at hw
    · cases hw
    · rename_i hne
      cases hw
      exact lv_idiv hx hb hd hne k1
  case irem =>
    have hln : len = 1 := Nat.eq_of_beq_eq_true hlen
    subst hln
    have hs : x_bin y pc L M S h (fun a b => if b = 0 then none else some (a - a / b * b)) = some (.inl (f', h')) := hst
    refine x_kbin (fun u v w hw H locs ls cells slots r k1 => ?_) hs kk
    split at hw
    · cases hw
    · rename_i hne
      cases hw
      exact lv_irem hx hb hd hne k1
  case ineg =>
    have hln : len = 1 := Nat.eq_of_beq_eq_true hlen
    subst hln
    have hs : x_un y pc L M S h (fun a => .int (-a)) = some (.inl (f', h')) := hst
    exact x_kun (fn := fun a => .int (-a)) (fun u H locs ls cells slots r k1 => lv_ineg hx hb hd k1) hs kk
  case i2l =>
    have hln : len = 1 := Nat.eq_of_beq_eq_true hlen
    subst hln
    have hs : x_un y pc L M S h (fun a => .long a.toInt64) = some (.inl (f', h')) := hst
    exact x_kun (fn := fun a => .long a.toInt64) (fun u H locs ls cells slots r k1 => lv_i2l hx hb hd rfl k1) hs kk
  case i2b =>
    have hln : len = 1 := Nat.eq_of_beq_eq_true hlen
    subst hln
    have hs : x_un y pc L M S h (fun a => .int a.toInt8.toInt32) = some (.inl (f', h')) := hst
    exact x_kun (fn := fun a => .int a.toInt8.toInt32) (fun u H locs ls cells slots r k1 => lv_i2b hx hb hd rfl k1) hs kk
  case i2c =>
    have hln : len = 1 := Nat.eq_of_beq_eq_true hlen
    subst hln
    have hs : x_un y pc L M S h (fun a => .int (a.toUInt32 % 65536).toInt32) = some (.inl (f', h')) := hst
    exact x_kun (fn := fun a => .int (a.toUInt32 % 65536).toInt32) (fun u H locs ls cells slots r k1 => lv_i2c hx hb hd rfl k1) hs kk
  case ladd =>
    have hln : len = 1 := Nat.eq_of_beq_eq_true hlen
    subst hln
    have hs : x_lbin y pc L M S h (fun a b => .long (a + b)) = some (.inl (f', h')) := hst
    exact x_klbin (fn := fun a b => .long (a + b)) (fun u v H locs ls cells slots r k1 => lv_ladd hx hb hd k1) hs kk
  case lsub =>
    have hln : len = 1 := Nat.eq_of_beq_eq_true hlen
    subst hln
    have hs : x_lbin y pc L M S h (fun a b => .long (a - b)) = some (.inl (f', h')) := hst
    exact x_klbin (fn := fun a b => .long (a - b)) (fun u v H locs ls cells slots r k1 => lv_lsub hx hb hd k1) hs kk
  case lmul =>
    have hln : len = 1 := Nat.eq_of_beq_eq_true hlen
    subst hln
    have hs : x_lbin y pc L M S h (fun a b => .long (a * b)) = some (.inl (f', h')) := hst
    exact x_klbin (fn := fun a b => .long (a * b)) (fun u v H locs ls cells slots r k1 => lv_lmul hx hb hd k1) hs kk
  case lcmp =>
    have hln : len = 1 := Nat.eq_of_beq_eq_true hlen
    subst hln
    have hs : x_lbin y pc L M S h (fun a b => .int (lg_cmp a b)) = some (.inl (f', h')) := hst
    exact x_klbin (fn := fun a b => .int (lg_cmp a b)) (fun u v H locs ls cells slots r k1 => W.lcmp hx hb hd k1) hs kk
  case dup =>
    have hln : len = 1 := Nat.eq_of_beq_eq_true hlen
    subst hln
    unfold x_op at hst
    simp only at hst
    split at hst
    · split at hst
      · rename_i v r hc
        exact x_kgo (S' := v :: v :: r) (fun H locs ls cells slots hl k1 => lv_dup hx hb hd (by rw [x_tr_cat hf]; exact hc) k1) hst kk
      · cases hst
    · cases hst
  case dup2 =>
    have hln : len = 1 := Nat.eq_of_beq_eq_true hlen
    subst hln
    unfold x_op at hst
    simp only at hst
    split at hst
    · split at hst
      · rename_i v w r hc
        exact x_kgo (S' := v :: w :: v :: w :: r) (fun H locs ls cells slots hl k1 => lv_dup2_11 hx hb hd (by rw [x_tr_cat hf]; exact hc.1) (by rw [x_tr_cat hf]; exact hc.2) k1) hst kk
      · cases hst
    · cases hst
  case pop =>
    have hln : len = 1 := Nat.eq_of_beq_eq_true hlen
    subst hln
    unfold x_op at hst
    simp only at hst
    split at hst
    · split at hst
      · rename_i v r hc
        exact x_kgo (S' := r) (fun H locs ls cells slots hl k1 => lv_pop hx hb hd (by rw [x_tr_cat hf]; exact hc) k1) hst kk
      · cases hst
    · cases hst
  case ifCond cnd off =>
    have hln : len = 3 := Nat.eq_of_beq_eq_true hlen
    subst hln
    unfold x_op at hst
    simp only at hst
    split at hst
    · rename_i hS hT
      have e := x_i1_s hS
      subst e
      have ht := x_tg_eq hT
      cases cnd
      case eq => exact x_kbr (fun H locs ls cells slots k1 k2 => lv_if_eq hx hb hd ht k1 k2) hst kk
      case ne => exact x_kbr (fun H locs ls cells slots k1 k2 => lv_if_ne hx hb hd ht k1 (fun z => k2 (fun w => w z))) hst kk
      case lt => exact x_kbr (fun H locs ls cells slots k1 k2 => lv_if_lt hx hb hd ht k1 k2) hst kk
      case ge => exact x_kbr (fun H locs ls cells slots k1 k2 => lv_if_ge hx hb hd ht k1 k2) hst kk
      case gt => exact x_kbr (fun H locs ls cells slots k1 k2 => lv_if_gt hx hb hd ht k1 k2) hst kk
      case le => exact x_kbr (fun H locs ls cells slots k1 k2 => lv_if_le hx hb hd ht k1 k2) hst kk
    · cases hst
  case if_icmp cnd off =>
    have hln : len = 3 := Nat.eq_of_beq_eq_true hlen
    subst hln
    unfold x_op at hst
    simp only at hst
    split at hst
    · rename_i hS hT
      have e := x_ii_s hS
      subst e
      have ht := x_tg_eq hT
      cases cnd
      case eq => exact x_kbr (fun H locs ls cells slots k1 k2 => lv_icmp_eq hx hb hd ht k1 k2) hst kk
      case ne => exact x_kbr (fun H locs ls cells slots k1 k2 => lv_icmp_ne hx hb hd ht k1 (fun z => k2 (fun w => w z))) hst kk
      case lt => exact x_kbr (fun H locs ls cells slots k1 k2 => lv_icmp_lt hx hb hd ht k1 k2) hst kk
      case ge => exact x_kbr (fun H locs ls cells slots k1 k2 => lv_icmp_ge hx hb hd ht k1 k2) hst kk
      case gt => exact x_kbr (fun H locs ls cells slots k1 k2 => lv_icmp_gt hx hb hd ht k1 k2) hst kk
      case le => exact x_kbr (fun H locs ls cells slots k1 k2 => lv_icmp_le hx hb hd ht k1 k2) hst kk
    · cases hst
  case goto off =>
    have hln : len = 3 := Nat.eq_of_beq_eq_true hlen
    subst hln
    have hs : x_jmp y L M S h (x_tg pc off) = some (.inl (f', h')) := hst
    exact x_kjmp (fun t ht H locs ls cells slots k1 => lv_goto hx hb hd (x_tg_eq ht) k1) hs kk
  case tableswitch dflt lo hi offs =>
    unfold x_op at hst
    simp only at hst
    split at hst
    · rename_i hS
      have e := x_i1_s hS
      subst e
      refine x_kjmp (fun t ht H locs ls cells slots k1 => ?_) hst kk
      unfold x_sw at ht
      split at ht
      · rename_i ho
        exact lv_tableOut hx hb hd ho (x_tg_eq ht) k1
      · rename_i ho
        split at ht
        · rename_i off hof
          exact lv_tableIn hx hb hd (fun z => ho (Or.inl z)) (fun z => ho (Or.inr z)) hof (x_tg_eq ht) k1
        · cases ht
    · cases hst
  case lookupswitch dflt ps =>
    unfold x_op at hst
    simp only at hst
    split at hst
    · rename_i hS
      have e := x_i1_s hS
      subst e
      exact x_kjmp (fun t ht H locs ls cells slots k1 => lv_lookup hx hb hd ok rfl (x_tg_eq ht) k1) hst kk
    · cases hst
  case getstatic i =>
    have hln : len = 3 := Nat.eq_of_beq_eq_true hlen
    subst hln
    unfold x_op at hst
    simp only at hst
    unfold x_okz at ok
    simp only at ok
    split at hst
    · intro H locs ls cells slots hR
      obtain ⟨rfl, rfl⟩ := x_go_inj hst
      exact va_gets hx hb hG.2.2.2.2.2.2.2.2.1 hR.2.2.1 hown (hts _ (x_tg_s ok rfl)) (fun x h => h) hd (kk H locs ls cells slots hR)
    · rename_i hq
      split at ok
      · exact absurd rfl hq
      · intro H locs ls cells slots hR
        obtain ⟨rfl, rfl⟩ := x_go_inj hst
        exact va_gets hx hb hG.2.2.2.2.2.2.2.2.2.1 hR.2.2.1 hown (hts _ (x_tg_s ok rfl)) (fun x h => h) hd (kk H locs ls cells slots hR)
  case getfield i =>
    have hln : len = 3 := Nat.eq_of_beq_eq_true hlen
    subst hln
    exact x_kgf C hd ok hst kk
  case putfield i =>
    have hln : len = 3 := Nat.eq_of_beq_eq_true hlen
    subst hln
    exact x_kpf C hd ok hst kk
  case iaload =>
    have hln : len = 1 := Nat.eq_of_beq_eq_true hlen
    subst hln
    exact x_kiald C hd hst kk
  case baload =>
    have hln : len = 1 := Nat.eq_of_beq_eq_true hlen
    subst hln
    exact x_kbald C hd hst kk
  case laload =>
    have hln : len = 1 := Nat.eq_of_beq_eq_true hlen
    subst hln
    exact x_kjald C hd hst kk
  case aaload =>
    have hln : len = 1 := Nat.eq_of_beq_eq_true hlen
    subst hln
    exact x_kaald C hd hst kk
  case iastore =>
    have hln : len = 1 := Nat.eq_of_beq_eq_true hlen
    subst hln
    exact x_kiast C hd hst kk
  case bastore =>
    have hln : len = 1 := Nat.eq_of_beq_eq_true hlen
    subst hln
    exact x_kbast C hd hst kk
  case lastore =>
    have hln : len = 1 := Nat.eq_of_beq_eq_true hlen
    subst hln
    exact x_kjast C hd hst kk
  case aastore =>
    have hln : len = 1 := Nat.eq_of_beq_eq_true hlen
    subst hln
    exact x_kaast C hd hst kk
  case arraylength =>
    have hln : len = 1 := Nat.eq_of_beq_eq_true hlen
    subst hln
    exact x_kalen C hd hst kk
  case new i =>
    have hln : len = 3 := Nat.eq_of_beq_eq_true hlen
    subst hln
    exact x_knew C hd ok hB hst kk
  case newarray i =>
    have hln : len = 2 := Nat.eq_of_beq_eq_true hlen
    subst hln
    exact x_knewa C hd ok hB hst kk
  case anewarray i =>
    have hln : len = 3 := Nat.eq_of_beq_eq_true hlen
    subst hln
    exact x_knewq C hd ok hB hst kk
  case invokespecial i =>
    have hln : len = 3 := Nat.eq_of_beq_eq_true hlen
    subst hln
    unfold x_op at hst
    simp only at hst
    split at hst
    · exact x_kobi C hd ok hst kk
    · exact absurd hst x_callv_ne
  case invokevirtual i =>
    have hln : len = 3 := Nat.eq_of_beq_eq_true hlen
    subst hln
    exact absurd hst x_calld_ne
  case invokestatic i =>
    have hln : len = 3 := Nat.eq_of_beq_eq_true hlen
    subst hln
    unfold x_op at hst
    simp only at hst
    split at hst
    · exact x_kcopy C hd ok hst kk
    · split at hst
      · exact x_kmab C hd ok hB hst kk
      · cases hst
    · split at hst
      · exact x_kmmx C hd ok hB hst kk
      · cases hst
    · split at hst
      · exact x_kmmn C hd ok hB hst kk
      · cases hst
    · exact absurd hst x_call_ne
  case ireturn =>
    exact absurd hst x_iret_ne
  case lreturn =>
    exact absurd hst x_jret_ne
  case return_ =>
    exact absurd hst x_vret_ne
  all_goals (unfold x_op at hst; cases hst)
end XSIM
