/-! a run of the abstract machine is a run of the real one -/
theorem x_okl_s {y : Nat} : ∀ (l : List (Option x_E)) (pc k : Nat) {e0 : x_E}, x_okl y pc l = true → x_at l k = some (some e0) → x_okb y (pc + k) e0 = true
  | [], pc, k, e0, h, hk => by cases hk
  | some e1 :: l, pc, 0, e0, h, hk => by
    cases hk
    unfold x_okl at h
    exact (Bool.and_eq_true _ _ ▸ h).1
  | none :: l, pc, 0, e0, h, hk => by cases hk
  | some e1 :: l, pc, k + 1, e0, h, hk => by
    unfold x_okl at h
    rw [show pc + (k + 1) = pc + 1 + k by omega]
    exact x_okl_s l (pc + 1) k ((Bool.and_eq_true _ _ ▸ h).2) hk
  | none :: l, pc, k + 1, e0, h, hk => by
    unfold x_okl at h
    rw [show pc + (k + 1) = pc + 1 + k by omega]
    exact x_okl_s l (pc + 1) k h hk
theorem x_ok_all {y pc : Nat} {e0 : x_E} (h : x_ins y pc = some e0) : x_okb y pc e0 = true := by
  unfold x_ins at h
  split at h
  · rename_i cs hc
    have hy : y < 304 := by
      unfold x_co at hc
      split at hc
      · rename_i l hl
        rw [x_at_eq] at hl
        have := (List.getElem?_eq_some_iff.mp hl).1
        have h19 : x_cs.length = 19 := rfl
        omega
      · cases hc
    unfold x_ix at h
    split at h
    · rename_i l hl
      split at h
      · rename_i e1 he
        subst h
        have hj := x_or_all y hy (pc / 32)
        unfold x_okj at hj
        rw [hc] at hj
        simp only at hj
        rw [hl] at hj
        simp only at hj
        have := x_okl_s l (32 * (pc / 32)) (pc % 32) hj he
        rw [show 32 * (pc / 32) + pc % 32 = pc by omega] at this
        exact this
      · cases h
    · cases h
  · cases h
theorem x_oM_all {z : Nat} {zz : x_M} (hz : x_m z = some zz) (h1 : z ≠ 0) (h0 : z ≠ 286 ∧ z ≠ 287 ∧ z ≠ 288) : x_okM z = true := x_om_all z (x_m_lt hz) (by omega) h0
theorem x_math_kind {z : Nat} {zz : x_M} (hz : x_m z = some zz) (hk : zz.2.2.2.2.1 % 4 ≠ 1) : z ≠ 286 ∧ z ≠ 287 ∧ z ≠ 288 := by
  refine ⟨?_, ?_, ?_⟩ <;> (intro e; subst e; cases hz; exact hk rfl)
theorem x_callv_z {y pc z n k : Nat} {L : x_L} {M : x_J} {S As : List Value} {h h1 : x_H} {f1 : x_F} (hs : x_callv y pc L M S h k n = some (.inr (.inr ((z, As), f1, h1)))) : z = k := by
  unfold x_callv at hs
  repeat' split at hs
  all_goals (cases hs)
  all_goals rfl
theorem x_calld_z {y pc z n k q : Nat} {L : x_L} {M : x_J} {S As : List Value} {h h1 : x_H} {f1 : x_F} (hs : x_calld y pc L M S h k n q = some (.inr (.inr ((z, As), f1, h1)))) : z = k := by
  unfold x_calld at hs
  repeat' split at hs
  all_goals (cases hs)
  all_goals rfl
theorem x_call_z {y pc z n k : Nat} {L : x_L} {M : x_J} {S As : List Value} {h h1 : x_H} {f1 : x_F} (hs : x_call y pc L M S h k n = some (.inr (.inr ((z, As), f1, h1)))) : z = k := by
  unfold x_call at hs
  repeat' split at hs
  all_goals (cases hs)
  all_goals rfl
theorem x_okc_s {mm : x_M} {idx z n p q kd : Nat} (ok : x_okc mm idx z n p q kd = true) : ∃ zz, x_m z = some zz ∧ z ≠ 0 ∧ zz.2.2.2.2.1 % 4 = kd := by
  unfold x_okc at ok
  split at ok
  · rename_i zz hz
    simp only [Bool.and_eq_true, decide_eq_true_eq] at ok
    obtain ⟨⟨⟨⟨⟨o0, o1⟩, -⟩, -⟩, -⟩, -⟩ := ok
    exact ⟨zz, hz, o0, o1⟩
  · cases ok
theorem x_eL_len {base b sa sv : Nat} {fv : Value} (hf : fv = .null ∨ ∃ t : Nat, fv = .ref t) : ∀ As : List Value, (lg_sl (As.map (x_tr base b sa sv fv))).length = (x_eL As).length
  | [] => rfl
  | v :: As => by
    have ih := x_eL_len (base := base) (b := b) (sa := sa) (sv := sv) hf As
    have hc := x_tr_cat (base := base) (b := b) (sa := sa) (sv := sv) hf v
    unfold lg_sl at ih ⊢
    rw [List.map_cons, List.flatMap_cons, List.length_append, ih, hc]
    cases v <;> simp [x_eL, Value.category] <;> omega
section XSIM
variable {p : Program} {l : Launch} {e : Env} {R : Room} {s : State} {m : MethodId} {args : Array Value} {below : List Frame} {meth : Method} {c : Code} {Q : State → Prop}
variable {base b xl sa sv : Nat} {xs : Nat → Int32} {fv : Value} {D : va_G} {dA : Nat → ClassId} {n0 w0 nL : Nat} {mm : x_M}
variable {y pc : Nat} {L : x_L} {M : x_J} {S : List Value} {h h' : x_H} {f' : x_F}
theorem x_run (C : x_Cx p R s m args meth c base b xl sa sv xs fv D dA n0 nL mm) (hy : x_m y = some mm) {v : Option Value} {h2 : x_H} (hB : h2.1.length ≤ n0 + R.cells ∧ x_wt h2.1 ≤ w0 + R.slots) (N : Nat)
    (CALL : ∀ n', n' < N → ∀ (z : Nat) (As : List Value) (ha : x_H) (f0 : x_F) (v1 : Option Value) (h3 : x_H), z ≠ 0 → z ≠ 286 ∧ z ≠ 287 ∧ z ≠ 288 → x_en z As = some f0 → x_ex xs xl n' f0 ha = some (v1, h3) → x_MetS l base b xl sa sv xs fv D dA z As ha v1 h3)
    (RET : ∀ (pc : Nat) (L : x_L) (M : x_J) (S : List Value) (h : x_H) (e0 : x_E), x_okb y pc e0 = true → x_lok e0 = true → x_op xs xl y pc L M S h e0 = some (.inr (.inl (v, h2))) → x_Kp p l e R s m args below meth c Q base b sa sv fv D dA n0 w0 nL (y, pc, L, M, S) h) :
    ∀ (k : Nat), k ≤ N → ∀ (f : x_F) (h : x_H), x_ex xs xl k f h = some (v, h2) → f.1 = y → x_Kp p l e R s m args below meth c Q base b sa sv fv D dA n0 w0 nL f h := by
  intro k
  induction k with
  | zero => intro _ f h e _; cases e
  | succ k ih =>
    intro hk f h he hfy
    obtain ⟨y1, pc, L, M, S⟩ := f
    have hfy : y1 = y := hfy
    subst hfy
    have hm : x_mo y1 h (x_st xs xl (y1, pc, L, M, S) h) := x_mo_st (f := (y1, pc, L, M, S))
    unfold x_ex at he
    split at he
    · cases he
    · rename_i f' h' hs
      obtain ⟨hf1, -, -⟩ := (hm _ hs).1 f' h' rfl
      obtain ⟨g1, g2⟩ := x_ex_mono k f' h' v h2 he
      have hB' : h'.1.length ≤ n0 + R.cells ∧ x_wt h'.1 ≤ w0 + R.slots := ⟨Nat.le_trans g1 hB.1, Nat.le_trans g2 hB.2⟩
      obtain ⟨e0, hi, hl, ho⟩ := x_st_s hs
      exact x_step C hy (x_ok_all hi) hl hB' ho (ih (by omega) f' h' he hf1)
    · rename_i r hs
      cases he
      obtain ⟨e0, hi, hl, ho⟩ := x_st_s hs
      exact RET pc L M S h e0 (x_ok_all hi) hl ho
    · rename_i z As f' h' hs
      obtain ⟨hf1, hh⟩ := (hm _ hs).2.1 (z, As) f' h' rfl
      subst hh
      split at he
      · cases he
      · rename_i f0 hf0
        split at he
        · cases he
        · rename_i v1 h3 he3
          obtain ⟨⟨ins, len, a, zn, pl, q⟩, hi, hl, ho⟩ := x_st_s hs
          have okb := x_ok_all hi
          unfold x_okb at okb
          rw [hy] at okb
          simp only [Bool.and_eq_true, decide_eq_true_eq] at okb
          obtain ⟨hd, ok⟩ := okb
          have hmn := x_ex_mono k f0 h' v1 h3 he3
          obtain ⟨g1, g2⟩ := x_ex_mono k (x_ps v1 f') h3 v h2 he
          have hB3 : h3.1.length ≤ n0 + R.cells ∧ x_wt h3.1 ≤ w0 + R.slots := ⟨Nat.le_trans g1 hB.1, Nat.le_trans g2 hB.2⟩
          have kk := ih (by omega) (x_ps v1 f') h3 he hf1
          rcases x_op_cases ho with ⟨f2, h4, w⟩ | ⟨idx, rfl, hne, hc⟩ | ⟨idx, rfl, hc⟩ | ⟨idx, rfl, n1, n2, n3, n4, hc⟩ | ⟨rfl, hc⟩ | ⟨rfl, hc⟩ | ⟨rfl, hc⟩
          · cases w
          · have hln : len = 3 := Nat.eq_of_beq_eq_true hl
            subst hln
            have hza : z = a := x_callv_z hc
            subst hza
            have ok' : x_okc mm idx z zn pl q 2 = true := by
              unfold x_okz at ok
              simp only at ok
              first
                | exact ok
                | (split at ok <;> first | exact absurd rfl hne | exact ok)
            obtain ⟨zz, hz, o0, o1⟩ := x_okc_s ok'
            exact x_krunI (len := 0) C hz hd ok' (x_oM_all hz o0 (x_math_kind hz (by rw [o1]; decide))) hc hB3 hmn (CALL k (by omega) z As h' f0 v1 h3 o0 (x_math_kind hz (by rw [o1]; decide)) hf0 he3) kk
          · have hln : len = 3 := Nat.eq_of_beq_eq_true hl
            subst hln
            have hza : z = a := x_calld_z hc
            subst hza
            have ok' : x_okc mm idx z zn pl 0 0 = true := by
              have q1 := ok
              unfold x_okz at q1
              simp only [Bool.and_eq_true] at q1
              exact q1.1
            obtain ⟨zz, hz, o0, o1⟩ := x_okc_s ok'
            exact x_krunV C hz hd ok (x_oM_all hz o0 (x_math_kind hz (by rw [o1]; decide))) hc hB3 hmn (CALL k (by omega) z As h' f0 v1 h3 o0 (x_math_kind hz (by rw [o1]; decide)) hf0 he3) kk
          · have hln : len = 3 := Nat.eq_of_beq_eq_true hl
            subst hln
            have hza : z = a := x_call_z hc
            subst hza
            have ok' : x_okc mm idx z zn pl q 1 = true := by
              unfold x_okz at ok
              simp only at ok
              first
                | exact ok
                | (split at ok <;> first | exact absurd rfl n1 | exact ok)
            obtain ⟨zz, hz, o0, o1⟩ := x_okc_s ok'
            exact x_krunS (len := 0) C hz hd ok' (x_oM_all hz o0 ⟨n2, n3, n4⟩) hc hB3 hmn (CALL k (by omega) z As h' f0 v1 h3 o0 ⟨n2, n3, n4⟩ hf0 he3) kk
          · unfold x_iret at hc
            repeat' split at hc
            all_goals cases hc
          · unfold x_jret at hc
            repeat' split at hc
            all_goals cases hc
          · unfold x_vret at hc
            repeat' split at hc
            all_goals cases hc
end XSIM
theorem x_met {l : Launch} {base b xl sa sv : Nat} {xs : Nat → Int32} {fv : Value} {D : va_G} {dA : Nat → ClassId} : ∀ (N n : Nat), n < N → ∀ (z : Nat) (As : List Value) (h : x_H) (f0 : x_F) (v : Option Value) (h2 : x_H), z ≠ 0 → z ≠ 286 ∧ z ≠ 287 ∧ z ≠ 288 → x_en z As = some f0 → x_ex xs xl n f0 h = some (v, h2) → x_MetS l base b xl sa sv xs fv D dA z As h v h2 := by
  intro N
  induction N with
  | zero => intro n hn; exact absurd hn (Nat.not_lt_zero n)
  | succ N ih =>
    intro n hn z As h f0 v h2 h0 hnm hf0 he zz hz
    have oM := x_oM_all hz h0 hnm
    have oM2 := oM
    unfold x_okM at oM2
    rw [hz] at oM2
    simp only [Bool.and_eq_true, decide_eq_true_eq] at oM2
    obtain ⟨⟨⟨⟨m1, m2⟩, m3⟩, m4⟩, m5⟩ := oM2
    refine Met.ofW (cc := zz.2.1) (maxL := zz.2.2.1) (ret := zz.2.2.2.1) m4 rfl ?_
    intro p e s m args below meth c s₁ B hml hv
    obtain ⟨rfl, hG, hP, hN, hs1, hs2, hval⟩ := hv
    have hts : ∀ w ∈ lw_g, w.before ((As.map (x_tr base b sa sv fv)).toArray) s = true := fun w hw => atoms_spec (ws := x_wd zz) B.pre w (List.mem_cons_of_mem _ hw)
    have hf := hG.2.2.2.2.2.2.2.2.2.2.1
    have C : x_Cx p (headSpec (x_wd zz) (x_rm zz h h2)).room s m ((As.map (x_tr base b sa sv fv)).toArray) meth c base b xl sa sv xs fv D dA h.1.length zz.2.2.1 zz := ⟨B.exec, B.bytes, hml, findClass_of_methodNamed B.named, hts, (name_of_methodNamed B.named B.method).1, hG, Nat.le_refl _, Nat.le_refl _, hs1, hs2⟩
    obtain ⟨g1, g2⟩ := x_ex_mono n f0 h v h2 he
    unfold x_en at hf0
    rw [hz] at hf0
    simp only at hf0
    split at hf0
    · rename_i hlen
      cases hf0
      have hll : (lg_sl (As.map (x_tr base b sa sv fv))).length ≤ zz.2.2.1 := by rw [x_eL_len hf As]; exact hlen
      have hl := lv_entry (As.map (x_tr base b sa sv fv)) (n := zz.2.2.1) hll
      rw [lg_entry_eq]
      have hrun := x_run (l := l) (e := e) (below := below) (Q := MQ below (x_Qc base b sa sv fv D dA v h2) ((As.map (x_tr base b sa sv fv)).toArray) s (h2.1.length - h.1.length) (x_wt h2.1 - x_wt h.1) (fun q => base ≤ q)) (w0 := x_wt h.1) C hz (v := v) (h2 := h2)
        ⟨by show _ ≤ h.1.length + (h2.1.length - h.1.length); omega, by show _ ≤ x_wt h.1 + (x_wt h2.1 - x_wt h.1); omega⟩ n
        (fun n' hn' => ih n' (by omega)) (fun pc L M S h e0 ok hlk ho => x_kret C hz B.returns B.notSynchronized ok hlk ho) n (Nat.le_refl n) _ h he rfl
      exact hrun s.heap [] _ 0 0 ⟨hP, hN, va_S.rf, x_LR_entry (x_tr_cat hf) (fun _ => rfl) (fun j w hw => by
        dsimp only at hw
        split at hw
        · exact x_jg_pad hw
        · cases hw) hl, by omega, by omega, hval⟩
    · cases hf0
