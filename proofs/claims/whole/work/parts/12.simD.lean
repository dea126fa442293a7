/-! arrays -/
section XSIM
variable {p : Program} {l : Launch} {e : Env} {R : Room} {s : State} {m : MethodId} {args : Array Value} {below : List Frame} {meth : Method} {c : Code} {Q : State → Prop}
variable {base b xl sa sv : Nat} {xs : Nat → Int32} {fv : Value} {D : va_G} {dA : Nat → ClassId} {n0 w0 nL : Nat} {mm : x_M}
variable {y pc : Nat} {L : x_L} {M : x_J} {S : List Value} {h h' : x_H} {f' : x_F}
theorem x_in_s {i : Int32} {n : Nat} {A : Option x_O} {z : x_O} (h : x_in? i n A = some z) : vp_in i n ∧ A = some z := by
  unfold x_in? at h
  split at h
  · cases h
  · rename_i q
    exact ⟨q, h⟩
theorem x_w_arr {a t n : Nat} {H1 : Heap} {h1 : x_H} {e0 : va_E} (hk : h1.1 = h.1) (hat : h.1[a]? = some (.inr (t, n))) (hP : va_P D x_cl ((x_ws base dA h).set a (base + a, e0)) H1)
    (ho : ∀ i, i ≠ a → h1.2.1 i = h.2.1 i ∧ h1.2.2.1 i = h.2.2.1 i ∧ h1.2.2.2 i = h.2.2.2 i) (he : x_ct base dA h1 a (.inr (t, n)) = e0) : va_P D x_cl (x_ws base dA h1) H1 := by
  rw [x_ws_set hk hat ho, he]
  exact hP
theorem x_kiald (C : x_Cx p R s m args meth c base b xl sa sv xs fv D dA n0 nL mm) (hd : decode mm.2.1 pc = .ok (.iaload, 1)) (hst : x_iald xs xl y pc L M S h = some (.inl (f', h'))) (kk : x_Kp p l e R s m args below meth c Q base b sa sv fv D dA n0 w0 nL f' h') : x_Kp p l e R s m args below meth c Q base b sa sv fv D dA n0 w0 nL (y, pc, L, M, S) h := by
  obtain ⟨hx, hb, -, hown, hts, -, hG, -⟩ := C
  obtain ⟨hK, hX, hbb, -⟩ := hG
  unfold x_iald at hst
  cases hS : x_ir S with
  | none => rw [hS] at hst; cases hst
  | some t =>
    obtain ⟨i, a, r⟩ := t
    rw [hS] at hst
    have e := x_ir_s hS
    subst e
    simp only at hst
    split at hst
    · obtain ⟨hin, hst⟩ := x_in_s hst
      obtain ⟨rfl, rfl⟩ := x_go_inj hst
      intro H locs ls cells slots hR
      have hbl : b < s.heap.size := (Array.getElem?_eq_some_iff.mp hX.choose_spec.1).1
      exact va_sld hx hb hX hbl (Nat.not_le.mpr hbb) hR.2.2.1 hin hd (kk H locs ls cells slots hR)
    · split at hst
      · rename_i n har
        obtain ⟨hin, hst⟩ := x_in_s hst
        obtain ⟨rfl, rfl⟩ := x_go_inj hst
        intro H locs ls cells slots hR
        have hat := x_ar_s har
        have hlt := x_lt_of hat hR.2.1
        show W p l e R s m args below meth c H locs cells slots Q (F0 m pc ls (.int i :: x_tr base b sa sv fv (.ref a) :: r.map (x_tr base b sa sv fv)))
        rw [x_tr_lt hlt]
        exact va_iald hx hb hK hR.1 a 0 (x_ws_get hat) rfl hin hd (kk H locs ls cells slots hR)
      · cases hst
theorem x_kbald (C : x_Cx p R s m args meth c base b xl sa sv xs fv D dA n0 nL mm) (hd : decode mm.2.1 pc = .ok (.baload, 1)) (hst : x_bald y pc L M S h = some (.inl (f', h'))) (kk : x_Kp p l e R s m args below meth c Q base b sa sv fv D dA n0 w0 nL f' h') : x_Kp p l e R s m args below meth c Q base b sa sv fv D dA n0 w0 nL (y, pc, L, M, S) h := by
  obtain ⟨hx, hb, -, hown, hts, -, hG, -⟩ := C
  obtain ⟨hK, -, -, -, -, -, -, hT, -⟩ := hG
  unfold x_bald at hst
  cases hS : x_ir S with
  | none => rw [hS] at hst; cases hst
  | some t =>
    obtain ⟨i, a, r⟩ := t
    rw [hS] at hst
    have e := x_ir_s hS
    subst e
    simp only at hst
    split at hst
    · obtain ⟨hin, hst⟩ := x_in_s hst
      obtain ⟨rfl, rfl⟩ := x_go_inj hst
      intro H locs ls cells slots hR
      exact va_tb hx hb hT hR.2.2.1 hin rfl hd (kk H locs ls cells slots hR)
    · split at hst
      · rename_i n har
        obtain ⟨hin, hst⟩ := x_in_s hst
        obtain ⟨rfl, rfl⟩ := x_go_inj hst
        intro H locs ls cells slots hR
        have hat := x_ar_s har
        have hlt := x_lt_of hat hR.2.1
        show W p l e R s m args below meth c H locs cells slots Q (F0 m pc ls (.int i :: x_tr base b sa sv fv (.ref a) :: r.map (x_tr base b sa sv fv)))
        rw [x_tr_lt hlt]
        exact va_bald hx hb hK hR.1 a 1 (x_ws_get hat) rfl hin hd (kk H locs ls cells slots hR)
      · rename_i n har
        obtain ⟨hin, hst⟩ := x_in_s hst
        obtain ⟨rfl, rfl⟩ := x_go_inj hst
        intro H locs ls cells slots hR
        have hat := x_ar_s har
        have hlt := x_lt_of hat hR.2.1
        show W p l e R s m args below meth c H locs cells slots Q (F0 m pc ls (.int i :: x_tr base b sa sv fv (.ref a) :: r.map (x_tr base b sa sv fv)))
        rw [x_tr_lt hlt]
        exact va_zald hx hb hK hR.1 a 2 (x_ws_get hat) rfl hin hd (kk H locs ls cells slots hR)
      · cases hst
theorem x_kjald (C : x_Cx p R s m args meth c base b xl sa sv xs fv D dA n0 nL mm) (hd : decode mm.2.1 pc = .ok (.laload, 1)) (hst : x_jald y pc L M S h = some (.inl (f', h'))) (kk : x_Kp p l e R s m args below meth c Q base b sa sv fv D dA n0 w0 nL f' h') : x_Kp p l e R s m args below meth c Q base b sa sv fv D dA n0 w0 nL (y, pc, L, M, S) h := by
  obtain ⟨hx, hb, -, hown, hts, -, hG, -⟩ := C
  obtain ⟨hK, -⟩ := hG
  unfold x_jald at hst
  cases hS : x_ir S with
  | none => rw [hS] at hst; cases hst
  | some t =>
    obtain ⟨i, a, r⟩ := t
    rw [hS] at hst
    have e := x_ir_s hS
    subst e
    simp only at hst
    split at hst
    · rename_i n har
      obtain ⟨hin, hst⟩ := x_in_s hst
      obtain ⟨rfl, rfl⟩ := x_go_inj hst
      intro H locs ls cells slots hR
      have hat := x_ar_s har
      have hlt := x_lt_of hat hR.2.1
      show W p l e R s m args below meth c H locs cells slots Q (F0 m pc ls (.int i :: x_tr base b sa sv fv (.ref a) :: r.map (x_tr base b sa sv fv)))
      rw [x_tr_lt hlt]
      exact va_lald hx hb hK hR.1 a 3 (x_ws_get hat) rfl hin hd (kk H locs ls cells slots hR)
    · cases hst
theorem x_kaald (C : x_Cx p R s m args meth c base b xl sa sv xs fv D dA n0 nL mm) (hd : decode mm.2.1 pc = .ok (.aaload, 1)) (hst : x_aald y pc L M S h = some (.inl (f', h'))) (kk : x_Kp p l e R s m args below meth c Q base b sa sv fv D dA n0 w0 nL f' h') : x_Kp p l e R s m args below meth c Q base b sa sv fv D dA n0 w0 nL (y, pc, L, M, S) h := by
  obtain ⟨hx, hb, -, hown, hts, -, hG, -⟩ := C
  obtain ⟨hK, -⟩ := hG
  unfold x_aald at hst
  cases hS : x_ir S with
  | none => rw [hS] at hst; cases hst
  | some t =>
    obtain ⟨i, a, r⟩ := t
    rw [hS] at hst
    have e := x_ir_s hS
    subst e
    simp only at hst
    split at hst
    · rename_i n har
      obtain ⟨hin, hst⟩ := x_in_s hst
      obtain ⟨rfl, rfl⟩ := x_go_inj hst
      intro H locs ls cells slots hR
      have hat := x_ar_s har
      have hlt := x_lt_of hat hR.2.1
      show W p l e R s m args below meth c H locs cells slots Q (F0 m pc ls (.int i :: x_tr base b sa sv fv (.ref a) :: r.map (x_tr base b sa sv fv)))
      rw [x_tr_lt hlt]
      refine va_aldq hx hb hK hR.1 a 4 (x_ws_get hat) rfl hin hd ?_
      have k1 := kk H locs ls cells slots hR
      have e1 : x_tr base b sa sv fv (x_rv (h.2.2.2 a i.toNatClampNeg)) = va_rf (x_rb base (h.2.2.2 a i.toNatClampNeg)) := x_tr_rv (fun j hj => hR.2.2.2.2.2.2 _ _ j hj)
      rw [← e1]
      exact k1
    · cases hst
theorem x_kiast (C : x_Cx p R s m args meth c base b xl sa sv xs fv D dA n0 nL mm) (hd : decode mm.2.1 pc = .ok (.iastore, 1)) (hst : x_iast y pc L M S h = some (.inl (f', h'))) (kk : x_Kp p l e R s m args below meth c Q base b sa sv fv D dA n0 w0 nL f' h') : x_Kp p l e R s m args below meth c Q base b sa sv fv D dA n0 w0 nL (y, pc, L, M, S) h := by
  obtain ⟨hx, hb, -, hown, hts, -, hG, -⟩ := C
  obtain ⟨hK, -⟩ := hG
  unfold x_iast at hst
  cases hS : x_iir S with
  | none => rw [hS] at hst; cases hst
  | some t =>
    obtain ⟨x, i, a, r⟩ := t
    rw [hS] at hst
    have e := x_iir_s hS
    subst e
    simp only at hst
    split at hst
    · rename_i n har
      obtain ⟨hin, hst⟩ := x_in_s hst
      obtain ⟨rfl, rfl⟩ := x_go_inj hst
      intro H locs ls cells slots hR
      have hat := x_ar_s har
      have hlt := x_lt_of hat hR.2.1
      show W p l e R s m args below meth c H locs cells slots Q (F0 m pc ls (.int x :: .int i :: x_tr base b sa sv fv (.ref a) :: r.map (x_tr base b sa sv fv)))
      rw [x_tr_lt hlt]
      refine va_iast hx hb hK hR.1 (x_ws_D base dA h) hR.2.2.1 a 0 (x_ws_get hat) rfl hin hd (fun H1 locs1 q1 q2 q3 => ?_)
      exact kk H1 locs1 ls cells slots ⟨x_w_arr (h := h) rfl hat q1 (fun i' hne => ⟨x_u2_ne hne, rfl, rfl⟩) (by show Sum.inl (_, n, Sum.inl (x_u2 h.2.1 a _ _ a)) = _; rw [x_u2_eq]; rfl), hR.2.1, q3, hR.2.2.2⟩
    · cases hst
theorem x_kbast (C : x_Cx p R s m args meth c base b xl sa sv xs fv D dA n0 nL mm) (hd : decode mm.2.1 pc = .ok (.bastore, 1)) (hst : x_bast y pc L M S h = some (.inl (f', h'))) (kk : x_Kp p l e R s m args below meth c Q base b sa sv fv D dA n0 w0 nL f' h') : x_Kp p l e R s m args below meth c Q base b sa sv fv D dA n0 w0 nL (y, pc, L, M, S) h := by
  obtain ⟨hx, hb, -, hown, hts, -, hG, -⟩ := C
  obtain ⟨hK, -⟩ := hG
  unfold x_bast at hst
  cases hS : x_iir S with
  | none => rw [hS] at hst; cases hst
  | some t =>
    obtain ⟨x, i, a, r⟩ := t
    rw [hS] at hst
    have e := x_iir_s hS
    subst e
    simp only at hst
    split at hst
    · rename_i n har
      obtain ⟨hin, hst⟩ := x_in_s hst
      obtain ⟨rfl, rfl⟩ := x_go_inj hst
      intro H locs ls cells slots hR
      have hat := x_ar_s har
      have hlt := x_lt_of hat hR.2.1
      show W p l e R s m args below meth c H locs cells slots Q (F0 m pc ls (.int x :: .int i :: x_tr base b sa sv fv (.ref a) :: r.map (x_tr base b sa sv fv)))
      rw [x_tr_lt hlt]
      refine va_bast hx hb hK hR.1 (x_ws_D base dA h) hR.2.2.1 a 1 (x_ws_get hat) rfl hin hd (fun H1 locs1 q1 q2 q3 => ?_)
      exact kk H1 locs1 ls cells slots ⟨x_w_arr (h := h) rfl hat q1 (fun i' hne => ⟨x_u2_ne hne, rfl, rfl⟩) (by show Sum.inl (_, n, Sum.inl (x_u2 h.2.1 a _ _ a)) = _; rw [x_u2_eq]; rfl), hR.2.1, q3, hR.2.2.2⟩
    · rename_i n har
      obtain ⟨hin, hst⟩ := x_in_s hst
      obtain ⟨rfl, rfl⟩ := x_go_inj hst
      intro H locs ls cells slots hR
      have hat := x_ar_s har
      have hlt := x_lt_of hat hR.2.1
      show W p l e R s m args below meth c H locs cells slots Q (F0 m pc ls (.int x :: .int i :: x_tr base b sa sv fv (.ref a) :: r.map (x_tr base b sa sv fv)))
      rw [x_tr_lt hlt]
      refine va_zast hx hb hK hR.1 (x_ws_D base dA h) hR.2.2.1 a 2 (x_ws_get hat) rfl hin hd (fun H1 locs1 q1 q2 q3 => ?_)
      exact kk H1 locs1 ls cells slots ⟨x_w_arr (h := h) rfl hat q1 (fun i' hne => ⟨x_u2_ne hne, rfl, rfl⟩) (by show Sum.inl (_, n, Sum.inl (x_u2 h.2.1 a _ _ a)) = _; rw [x_u2_eq]; rfl), hR.2.1, q3, hR.2.2.2⟩
    · cases hst
theorem x_kjast (C : x_Cx p R s m args meth c base b xl sa sv xs fv D dA n0 nL mm) (hd : decode mm.2.1 pc = .ok (.lastore, 1)) (hst : x_jast y pc L M S h = some (.inl (f', h'))) (kk : x_Kp p l e R s m args below meth c Q base b sa sv fv D dA n0 w0 nL f' h') : x_Kp p l e R s m args below meth c Q base b sa sv fv D dA n0 w0 nL (y, pc, L, M, S) h := by
  obtain ⟨hx, hb, -, hown, hts, -, hG, -⟩ := C
  obtain ⟨hK, -⟩ := hG
  unfold x_jast at hst
  cases hS : x_lir S with
  | none => rw [hS] at hst; cases hst
  | some t =>
    obtain ⟨x, i, a, r⟩ := t
    rw [hS] at hst
    have e := x_lir_s hS
    subst e
    simp only at hst
    split at hst
    · rename_i n har
      obtain ⟨hin, hst⟩ := x_in_s hst
      obtain ⟨rfl, rfl⟩ := x_go_inj hst
      intro H locs ls cells slots hR
      have hat := x_ar_s har
      have hlt := x_lt_of hat hR.2.1
      show W p l e R s m args below meth c H locs cells slots Q (F0 m pc ls (.long x :: .int i :: x_tr base b sa sv fv (.ref a) :: r.map (x_tr base b sa sv fv)))
      rw [x_tr_lt hlt]
      refine va_last hx hb hK hR.1 (x_ws_D base dA h) hR.2.2.1 a 3 (x_ws_get hat) rfl hin hd (fun H1 locs1 q1 q2 q3 => ?_)
      exact kk H1 locs1 ls cells slots ⟨x_w_arr (h := h) rfl hat q1 (fun i' hne => ⟨rfl, x_u2_ne hne, rfl⟩) (by show Sum.inl (_, n, Sum.inr (Sum.inl (x_u2 h.2.2.1 a _ _ a))) = _; rw [x_u2_eq]; rfl), hR.2.1, q3, hR.2.2.2⟩
    · cases hst
theorem x_kaast (C : x_Cx p R s m args meth c base b xl sa sv xs fv D dA n0 nL mm) (hd : decode mm.2.1 pc = .ok (.aastore, 1)) (hst : x_aast y pc L M S h = some (.inl (f', h'))) (kk : x_Kp p l e R s m args below meth c Q base b sa sv fv D dA n0 w0 nL f' h') : x_Kp p l e R s m args below meth c Q base b sa sv fv D dA n0 w0 nL (y, pc, L, M, S) h := by
  obtain ⟨hx, hb, -, hown, hts, -, hG, -⟩ := C
  obtain ⟨hK, -⟩ := hG
  unfold x_aast at hst
  cases hS : x_rir S with
  | none => rw [hS] at hst; cases hst
  | some t =>
    obtain ⟨x, i, a, r⟩ := t
    rw [hS] at hst
    have e := x_rir_s hS
    subst e
    simp only at hst
    split at hst
    · rename_i n har
      cases hob : x_ob h x 0 with
      | false => rw [hob] at hst; cases hst
      | true =>
        rw [hob] at hst
        simp only at hst
        obtain ⟨hin, hst⟩ := x_in_s hst
        obtain ⟨rfl, rfl⟩ := x_go_inj hst
        intro H locs ls cells slots hR
        have hat := x_ar_s har
        have hax := x_ob_s hob
        have hlt := x_lt_of hat hR.2.1
        have hlx := x_lt_of hax hR.2.1
        show W p l e R s m args below meth c H locs cells slots Q (F0 m pc ls (x_tr base b sa sv fv (.ref x) :: .int i :: x_tr base b sa sv fv (.ref a) :: r.map (x_tr base b sa sv fv)))
        rw [x_tr_lt hlt, x_tr_lt hlx]
        refine va_astq hx hb hK hR.1 (x_ws_D base dA h) hR.2.2.1 a 4 x 0 (x_ws_get hat) rfl (x_ws_get hax) (x_cl_get 0 (by decide)) hin hd (fun H1 locs1 q1 q2 q3 => ?_)
        refine kk H1 locs1 ls cells slots ⟨x_w_arr (h := h) rfl hat q1 (fun i' hne => ⟨rfl, rfl, x_u2_ne hne⟩) ?_, hR.2.1, q3, hR.2.2.2.1, hR.2.2.2.2.1, hR.2.2.2.2.2.1, fun i' k j hj => ?_⟩
        · show Sum.inl (_, n, Sum.inr (Sum.inr (Sum.inr (Sum.inr (fun k => x_rb base (x_u2 h.2.2.2 a i.toNatClampNeg (some x) a k)))))) = _
          rw [x_u2_eq]
          have ef : (fun k => x_rb base ((fun k' => if k' = i.toNatClampNeg then some x else h.2.2.2 a k') k)) = va_up (fun k => x_rb base (h.2.2.2 a k)) i.toNatClampNeg (some (base + x)) := by
            funext k
            unfold va_up
            by_cases hk : k = i.toNatClampNeg
            · simp [hk, x_rb]
            · simp [hk]
          rw [ef]
        · by_cases hi : i' = a
          · subst hi
            simp only [x_u2_eq] at hj
            split at hj
            · cases hj; exact hlx
            · exact hR.2.2.2.2.2.2 _ _ j hj
          · simp only [x_u2_ne hi] at hj
            exact hR.2.2.2.2.2.2 _ _ j hj
    · cases hst
theorem x_kalen (C : x_Cx p R s m args meth c base b xl sa sv xs fv D dA n0 nL mm) (hd : decode mm.2.1 pc = .ok (.arraylength, 1)) (hst : x_alen xl y pc L M S h = some (.inl (f', h'))) (kk : x_Kp p l e R s m args below meth c Q base b sa sv fv D dA n0 w0 nL f' h') : x_Kp p l e R s m args below meth c Q base b sa sv fv D dA n0 w0 nL (y, pc, L, M, S) h := by
  obtain ⟨hx, hb, -, hown, hts, -, hG, -⟩ := C
  obtain ⟨hK, hX, hbb, -, -, -, -, hT, -⟩ := hG
  unfold x_alen at hst
  cases hS : x_r1 S with
  | none => rw [hS] at hst; cases hst
  | some t =>
    obtain ⟨a, r⟩ := t
    rw [hS] at hst
    have e := x_r1_s hS
    subst e
    simp only at hst
    split at hst
    · obtain ⟨rfl, rfl⟩ := x_go_inj hst
      intro H locs ls cells slots hR
      have hbl : b < s.heap.size := (Array.getElem?_eq_some_iff.mp hX.choose_spec.1).1
      exact va_slen hx hb hX hbl (Nat.not_le.mpr hbb) hR.2.2.1 hd (kk H locs ls cells slots hR)
    · obtain ⟨rfl, rfl⟩ := x_go_inj hst
      intro H locs ls cells slots hR
      exact va_tlen hx hb hT hR.2.2.1 rfl hd (kk H locs ls cells slots hR)
    · split at hst
      · rename_i t n har
        split at hst
        · rename_i ht
          obtain ⟨rfl, rfl⟩ := x_go_inj hst
          intro H locs ls cells slots hR
          have hat := x_ar_s har
          have hlt := x_lt_of hat hR.2.1
          show W p l e R s m args below meth c H locs cells slots Q (F0 m pc ls (x_tr base b sa sv fv (.ref a) :: r.map (x_tr base b sa sv fv)))
          rw [x_tr_lt hlt]
          obtain ⟨ty, hty⟩ : ∃ ty, (x_tys dA)[t]? = some (dA t, ty) := by
            rcases (show t = 0 ∨ t = 1 ∨ t = 2 ∨ t = 3 ∨ t = 4 by omega) with rfl | rfl | rfl | rfl | rfl <;> exact ⟨_, rfl⟩
          exact va_alen hx hb hK hR.1 a t (x_ws_get hat) hty rfl hd (kk H locs ls cells slots hR)
        · cases hst
      · cases hst
end XSIM
