/-! what is made, what is copied -/
theorem x_oi1 : Cond.instanceMethod objectInit ∈ lw_g := x_mg (List.mem_of_getElem? (i := 165) (by decide +kernel)) rfl
theorem x_oi2 : Cond.code objectInit ⟨#[0xb1]⟩ 1 none ∈ lw_g := x_mg (List.mem_of_getElem? (i := 166) (by decide +kernel)) rfl
theorem x_ac1 : Cond.native arraycopyName ∈ lw_g := x_mg (List.mem_of_getElem? (i := 898) (by decide +kernel)) rfl
theorem x_ac2 : Cond.static arraycopyName ∈ lw_g := x_mg (List.mem_of_getElem? (i := 897) (by decide +kernel)) rfl
theorem x_ac3 : Cond.initialized "java/lang/System" ∈ lw_g := x_mg (List.mem_of_getElem? (i := 157) (by decide +kernel)) rfl
theorem x_ma0 : Cond.static Lib.Math.abs.name ∈ lw_g := x_mg (List.mem_of_getElem? (i := 1083) (by decide +kernel)) rfl
theorem x_mb0 : Cond.code Lib.Math.abs.name Lib.Math.abs.code 1 (some .int) ∈ lw_g := x_mg (List.mem_of_getElem? (i := 1084) (by decide +kernel)) rfl
theorem x_ma1 : Cond.static Lib.Math.max.name ∈ lw_g := x_mg (List.mem_of_getElem? (i := 983) (by decide +kernel)) rfl
theorem x_mb1 : Cond.code Lib.Math.max.name Lib.Math.max.code 2 (some .int) ∈ lw_g := x_mg (List.mem_of_getElem? (i := 984) (by decide +kernel)) rfl
theorem x_ma2 : Cond.static Lib.Math.min.name ∈ lw_g := x_mg (List.mem_of_getElem? (i := 1089) (by decide +kernel)) rfl
theorem x_mb2 : Cond.code Lib.Math.min.name Lib.Math.min.code 2 (some .int) ∈ lw_g := x_mg (List.mem_of_getElem? (i := 1090) (by decide +kernel)) rfl
theorem x_mi : Cond.initialized "java/lang/Math" ∈ lw_g := x_mg (List.mem_of_getElem? (i := 158) (by decide +kernel)) rfl
section XSIM
variable {p : Program} {l : Launch} {e : Env} {R : Room} {s : State} {m : MethodId} {args : Array Value} {below : List Frame} {meth : Method} {c : Code} {Q : State → Prop}
variable {base b xl sa sv : Nat} {xs : Nat → Int32} {fv : Value} {D : va_G} {dA : Nat → ClassId} {n0 w0 nL : Nat} {mm : x_M}
variable {y pc : Nat} {L : x_L} {M : x_J} {S : List Value} {h h' : x_H} {f' : x_F}
theorem x_addr {q : Nat} {e0 : va_E} {H1 : Heap} (hP1 : va_P D x_cl (x_ws base dA h ++ [(q, e0)]) H1) (hD1 : va_D (fun q => base ≤ q) (x_ws base dA h ++ [(q, e0)])) (hsz : H1.size ≤ base + h.1.length + 1) : q = base + h.1.length := by
  have hlen : (x_ws base dA h).length = h.1.length := by unfold x_ws; rw [List.length_mapIdx]
  have hat : (x_ws base dA h ++ [(q, e0)])[h.1.length]? = some (q, e0) := by
    rw [List.getElem?_append_right (by omega), hlen, Nat.sub_self]; rfl
  have h1 : q < H1.size := (hP1 _ _ hat).lt
  have h2 : base ≤ q := hD1.2 _ _ hat
  by_cases hq : q = base + h.1.length
  · exact hq
  · exfalso
    have hi : q - base < h.1.length := by omega
    have hk : ∃ k, h.1[q - base]? = some k := ⟨_, List.getElem?_eq_getElem hi⟩
    obtain ⟨k, hk⟩ := hk
    have hz : (x_ws base dA h ++ [(q, e0)])[q - base]? = some (base + (q - base), x_ct base dA h (q - base) k) := by
      rw [List.getElem?_append_left (by omega)]
      exact x_ws_get hk
    have h3 := hD1.1 _ _ _ _ hz hat (by simp only; omega)
    omega
theorem x_knew (C : x_Cx p R s m args meth c base b xl sa sv xs fv D dA n0 nL mm) {idx a bb pl q : Nat} (hd : decode mm.2.1 pc = .ok (.new idx, 3)) (ok : x_okz mm (.new idx, 3, a, bb, pl, q) = true) (hB : h'.1.length ≤ n0 + R.cells ∧ x_wt h'.1 ≤ w0 + R.slots)
    (hst : x_new y pc L M S h a = some (.inl (f', h'))) (kk : x_Kp p l e R s m args below meth c Q base b sa sv fv D dA n0 w0 nL f' h') : x_Kp p l e R s m args below meth c Q base b sa sv fv D dA n0 w0 nL (y, pc, L, M, S) h := by
  obtain ⟨hx, hb, -, hown, hts, -, hG, -, -, hz1, hz2⟩ := C
  obtain ⟨hK, -⟩ := hG
  unfold x_okz at ok
  simp only [Bool.and_eq_true, decide_eq_true_eq] at ok
  obtain ⟨hc, hl⟩ := ok
  unfold x_new at hst
  split at hst
  · rename_i hlt
    obtain ⟨rfl, rfl⟩ := x_go_inj hst
    intro H locs ls cells slots hR
    obtain ⟨hP, hN, hS0, hl4, h5, h6, hv⟩ := hR
    have hw := x_wt_push h.1 (.inl a)
    have hw1 : x_wt1 (.inl a) = (x_cn a).2.2 := rfl
    simp only [List.length_append, List.length_singleton] at hB
    refine va_new (ci := a) (fs := (List.range (x_cn a).2.2).map (x_fv base a h.1.length (h.1 ++ [.inl a], x_u1 h.2.1 h.1.length (fun _ => 0), h.2.2.1, x_u1 h.2.2.2 h.1.length (fun _ => none)))) hx hb hts (x_in_all a hc) (x_ty a) (x_ty_all a hc) hown (hts _ (x_tg_s hl rfl)) (hts _ (x_inst_all a hc)) (hts _ (x_init_all a hc)) hK hP (x_ws_D base dA h) hS0 (fun q hq => Nat.le_trans hz2 hq) (x_cl_get a hc) ?_ (by omega) (by omega) hd (fun q H1 q1 q2 q3 => ?_)
    · intro j hj
      unfold vp_V
      rw [List.getD_eq_getElem?_getD, x_fs_get hj, Option.getD_some]
      unfold x_fv
      simp only [x_u1_eq]
      rcases x_kind_all a hc j hj with hr | hr | hr
      · rw [hr]; exact (x_isr_fit hr 0).2.2
      · rw [hr]; rfl
      · rw [hr]; rfl
    · refine x_size (fun hsz => ?_)
      have hq := x_addr q1 q2 (by omega)
      subst hq
      have k1 := kk H1 locs ls (cells + 1) (slots + (x_cn a).2.2) ⟨by have e9 := x_ws_push (base := base) (dA := dA) (h := h) (h' := (h.1 ++ [(Sum.inl a : x_K)], x_u1 h.2.1 h.1.length (fun _ => 0), h.2.2.1, x_u1 h.2.2.2 h.1.length (fun _ => none))) (k := .inl a) rfl (fun i hi => ⟨x_u1_ne (Nat.ne_of_lt hi), rfl, x_u1_ne (Nat.ne_of_lt hi)⟩); rw [e9]; exact q1, by simp only [List.length_append, List.length_singleton]; omega, q3, hl4, by simp only [List.length_append, List.length_singleton]; omega, by show w0 + (slots + _) = x_wt (h.1 ++ [.inl a]); omega, fun i k j hj => ?_⟩
      · have k2 : W p l e R s m args below meth c H1 locs (cells + 1) (slots + (x_cn a).2.2) Q (F0 m (pc + 3) ls (x_tr base b sa sv fv (.ref h.1.length) :: S.map (x_tr base b sa sv fv))) := k1
        rw [x_tr_lt hlt] at k2
        exact k2
      · by_cases hi : i = h.1.length
        · subst hi
          simp only [x_u1_eq] at hj
          cases hj
        · simp only [x_u1_ne hi] at hj
          exact hv i k j hj
  · cases hst
theorem x_knewa (C : x_Cx p R s m args meth c base b xl sa sv xs fv D dA n0 nL mm) {at0 : ArrayType} {a bb pl q : Nat} (hd : decode mm.2.1 pc = .ok (.newarray at0, 2)) (ok : x_okz mm (.newarray at0, 2, a, bb, pl, q) = true) (hB : h'.1.length ≤ n0 + R.cells ∧ x_wt h'.1 ≤ w0 + R.slots)
    (hst : x_newa y pc L M S h a = some (.inl (f', h'))) (kk : x_Kp p l e R s m args below meth c Q base b sa sv fv D dA n0 w0 nL f' h') : x_Kp p l e R s m args below meth c Q base b sa sv fv D dA n0 w0 nL (y, pc, L, M, S) h := by
  obtain ⟨hx, hb, -, hown, hts, -, hG, -, -, hz1, hz2⟩ := C
  obtain ⟨hK, -⟩ := hG
  unfold x_okz at ok
  simp only [Bool.and_eq_true, decide_eq_true_eq] at ok
  obtain ⟨⟨ha4, hl⟩, hty⟩ := ok
  unfold x_newa at hst
  cases hS : x_i1 S with
  | none => rw [hS] at hst; cases hst
  | some t =>
    obtain ⟨n, r⟩ := t
    rw [hS] at hst
    have e := x_i1_s hS
    subst e
    simp only at hst
    split at hst
    · rename_i hlt
      obtain ⟨hlt, hn, hn2⟩ := hlt
      obtain ⟨rfl, rfl⟩ := x_go_inj hst
      intro H locs ls cells slots hR
      obtain ⟨hP, hN, hS0, hl4, h5, h6, hv⟩ := hR
      have hw := x_wt_push h.1 (.inr (a, n.toNatClampNeg))
      have hw1 : x_wt1 (.inr (a, n.toNatClampNeg)) = n.toNatClampNeg := rfl
      simp only [List.length_append, List.length_singleton] at hB
      have hcb : n.toNatClampNeg * componentBytes (x_a5 a) ≤ 536870912 := by
        have h8 : componentBytes (x_a5 a) ≤ 8 := by rcases (show a = 0 ∨ a = 1 ∨ a = 2 ∨ a = 3 by omega) with rfl | rfl | rfl | rfl <;> decide
        exact Nat.le_trans (Nat.mul_le_mul (Nat.le_of_lt hn2) h8) (by decide)
      refine va_newa (ty := x_a5 a) (N' := n.toNatClampNeg) (a0 := (n.toNatClampNeg, x_ac base (h.1 ++ [.inr (a, n.toNatClampNeg)], x_u1 h.2.1 h.1.length (fun _ => 0), x_u1 h.2.2.1 h.1.length (fun _ => 0), h.2.2.2) h.1.length a)) hx hb (hts _ (x_tg_s hl rfl)) hty hK hP (x_ws_D base dA h) hS0 (fun q hq => Nat.le_trans hz2 hq) ?_ hn rfl hcb (by omega) (by omega) hd (fun q cA H1 qK q1 q2 q3 => ?_)
      · intro cA
        unfold x_ac
        rcases (show a = 0 ∨ a = 1 ∨ a = 2 ∨ a = 3 by omega) with rfl | rfl | rfl | rfl <;> simp only [x_u1_eq] <;> rfl
      · have hcA : cA = dA a := by
          have r1 : va_RA s cA (x_a5 a) := (qK.2 5 _ rfl).2
          have r2 : va_RA s (dA a) (x_a5 a) := by
            rcases (show a = 0 ∨ a = 1 ∨ a = 2 ∨ a = 3 by omega) with rfl | rfl | rfl | rfl
            · exact (hK.2 0 _ rfl).2
            · exact (hK.2 1 _ rfl).2
            · exact (hK.2 2 _ rfl).2
            · exact (hK.2 3 _ rfl).2
          rcases (show a = 0 ∨ a = 1 ∨ a = 2 ∨ a = 3 by omega) with rfl | rfl | rfl | rfl <;> exact Option.some.inj (r1.symm.trans r2)
        subst hcA
        refine x_size (fun hsz => ?_)
        have hq := x_addr q1 q2 (by omega)
        subst hq
        have k1 := kk H1 locs ls (cells + 1) (slots + n.toNatClampNeg) ⟨by have e9 := x_ws_push (base := base) (dA := dA) (h := h) (h' := (h.1 ++ [(Sum.inr (a, n.toNatClampNeg) : x_K)], x_u1 h.2.1 h.1.length (fun _ => 0), x_u1 h.2.2.1 h.1.length (fun _ => 0), h.2.2.2)) (k := .inr (a, n.toNatClampNeg)) rfl (fun i hi => ⟨x_u1_ne (Nat.ne_of_lt hi), x_u1_ne (Nat.ne_of_lt hi), rfl⟩); rw [e9]; exact q1, by simp only [List.length_append, List.length_singleton]; omega, q3, hl4, by simp only [List.length_append, List.length_singleton]; omega, by show w0 + (slots + _) = x_wt (h.1 ++ [.inr (a, n.toNatClampNeg)]); omega, hv⟩
        have k2 : W p l e R s m args below meth c H1 locs (cells + 1) (slots + n.toNatClampNeg) Q (F0 m (pc + 2) ls (x_tr base b sa sv fv (.ref h.1.length) :: r.map (x_tr base b sa sv fv))) := k1
        rw [x_tr_lt hlt] at k2
        exact k2
    · cases hst
theorem x_knewq (C : x_Cx p R s m args meth c base b xl sa sv xs fv D dA n0 nL mm) {idx a bb pl q : Nat} (hd : decode mm.2.1 pc = .ok (.anewarray idx, 3)) (ok : x_okz mm (.anewarray idx, 3, a, bb, pl, q) = true) (hB : h'.1.length ≤ n0 + R.cells ∧ x_wt h'.1 ≤ w0 + R.slots)
    (hst : x_newq y pc L M S h = some (.inl (f', h'))) (kk : x_Kp p l e R s m args below meth c Q base b sa sv fv D dA n0 w0 nL f' h') : x_Kp p l e R s m args below meth c Q base b sa sv fv D dA n0 w0 nL (y, pc, L, M, S) h := by
  obtain ⟨hx, hb, -, hown, hts, -, hG, -, -, hz1, hz2⟩ := C
  have hAO := hG.2.2.2.2.2.2.2.2.2.2.2.1
  obtain ⟨hK, -⟩ := hG
  unfold x_okz at ok
  simp only [Bool.and_eq_true] at ok
  obtain ⟨hl, -⟩ := ok
  unfold x_newq at hst
  cases hS : x_i1 S with
  | none => rw [hS] at hst; cases hst
  | some t =>
    obtain ⟨n, r⟩ := t
    rw [hS] at hst
    have e := x_i1_s hS
    subst e
    simp only at hst
    split at hst
    · rename_i hlt
      obtain ⟨hlt, hn, hn2⟩ := hlt
      obtain ⟨rfl, rfl⟩ := x_go_inj hst
      intro H locs ls cells slots hR
      obtain ⟨hP, hN, hS0, hl4, h5, h6, hv⟩ := hR
      have hw := x_wt_push h.1 (.inr (4, n.toNatClampNeg))
      have hw1 : x_wt1 (.inr (4, n.toNatClampNeg)) = n.toNatClampNeg := rfl
      simp only [List.length_append, List.length_singleton] at hB
      refine va_newq (N' := n.toNatClampNeg) hx hb hown (hts _ (x_tg_s hl rfl)) hAO hK hP (x_ws_D base dA h) hS0 (fun q hq => Nat.le_trans hz2 hq) hn rfl (by omega) (by omega) (by omega) hd (fun q cA H1 qK q1 q2 q3 => ?_)
      have hcA : cA = dA 4 := by
        have r1 : va_RA s cA (.object "AgeHill$Folk") := (qK.2 5 _ rfl).2
        have r2 : va_RA s (dA 4) (.object "AgeHill$Folk") := (hK.2 4 _ rfl).2
        obtain ⟨-, -, -, -, -, z1⟩ := r1
        obtain ⟨-, -, -, -, -, z2⟩ := r2
        exact Option.some.inj (z1.symm.trans z2)
      subst hcA
      refine x_size (fun hsz => ?_)
      have hq := x_addr q1 q2 (by omega)
      subst hq
      have k1 := kk H1 locs ls (cells + 1) (slots + n.toNatClampNeg) ⟨by
        have e9 := x_ws_push (base := base) (dA := dA) (h := h) (h' := (h.1 ++ [(Sum.inr (4, n.toNatClampNeg) : x_K)], h.2.1, h.2.2.1, x_u1 h.2.2.2 h.1.length (fun _ => none))) (k := .inr (4, n.toNatClampNeg)) rfl (fun i hi => ⟨rfl, rfl, x_u1_ne (Nat.ne_of_lt hi)⟩); rw [e9]
        have e1 : x_ct base dA (h.1 ++ [.inr (4, n.toNatClampNeg)], h.2.1, h.2.2.1, x_u1 h.2.2.2 h.1.length (fun _ => none)) h.1.length (.inr (4, n.toNatClampNeg)) = .inl (dA 4, n.toNatClampNeg, .inr (.inr (.inr (.inr (fun _ => none))))) := by
          show Sum.inl (dA 4, n.toNatClampNeg, Sum.inr (Sum.inr (Sum.inr (Sum.inr (fun k => x_rb base (x_u1 h.2.2.2 h.1.length (fun _ => none) h.1.length k)))))) = _
          rw [x_u1_eq]
          rfl
        rw [e1]
        exact q1, by simp only [List.length_append, List.length_singleton]; omega, q3, hl4, by simp only [List.length_append, List.length_singleton]; omega, by show w0 + (slots + _) = x_wt (h.1 ++ [.inr (4, n.toNatClampNeg)]); omega, fun i k j hj => ?_⟩
      · have k2 : W p l e R s m args below meth c H1 locs (cells + 1) (slots + n.toNatClampNeg) Q (F0 m (pc + 3) ls (x_tr base b sa sv fv (.ref h.1.length) :: r.map (x_tr base b sa sv fv))) := k1
        rw [x_tr_lt hlt] at k2
        exact k2
      · by_cases hi : i = h.1.length
        · subst hi
          simp only [x_u1_eq] at hj
          cases hj
        · simp only [x_u1_ne hi] at hj
          exact hv i k j hj
    · cases hst
theorem x_kcopy (C : x_Cx p R s m args meth c base b xl sa sv xs fv D dA n0 nL mm) {idx bb pl q : Nat} (hd : decode mm.2.1 pc = .ok (.invokestatic idx, 3)) (ok : x_okz mm (.invokestatic idx, 3, 9998, bb, pl, q) = true)
    (hst : x_copy y pc L M S h = some (.inl (f', h'))) (kk : x_Kp p l e R s m args below meth c Q base b sa sv fv D dA n0 w0 nL f' h') : x_Kp p l e R s m args below meth c Q base b sa sv fv D dA n0 w0 nL (y, pc, L, M, S) h := by
  obtain ⟨hx, hb, hml, hown, hts, -, hG, hfr, hlo, hz1, hz2⟩ := C
  have hf := hG.2.2.2.2.2.2.2.2.2.2.1
  obtain ⟨hK, -⟩ := hG
  unfold x_okz at ok
  simp only [Bool.and_eq_true, decide_eq_true_eq] at ok
  obtain ⟨⟨hl, hloc⟩, hdep⟩ := ok
  unfold x_copy at hst
  cases hS : x_cpy S with
  | none => rw [hS] at hst; cases hst
  | some t =>
    obtain ⟨n, dp, a, sp, a0, r⟩ := t
    rw [hS] at hst
    have e := x_cpy_s hS
    subst e
    simp only at hst
    split at hst
    · rename_i n1 n2 har har0
      split at hst
      · rename_i hc
        obtain ⟨c1, c2, c3, c4, c5, c6⟩ := hc
        obtain ⟨rfl, rfl⟩ := x_go_inj hst
        intro H locs ls cells slots hR
        have hat := x_ar_s har
        have hat0 := x_ar_s har0
        have hlt := x_lt_of hat hR.2.1
        have hlt0 := x_lt_of hat0 hR.2.1
        show W p l e R s m args below meth c H locs cells slots Q (F0 m pc ls (.int n :: .int dp :: x_tr base b sa sv fv (.ref a) :: .int sp :: x_tr base b sa sv fv (.ref a0) :: r.map (x_tr base b sa sv fv)))
        rw [x_tr_lt hlt, x_tr_lt hlt0]
        refine va_copyi hx hb (hml.trans hR.2.2.2.1.1.1.symm) hown (hts _ (x_tg_s hl rfl)) (hts _ x_ac1) (hts _ x_ac2) (hts _ x_ac3) hK hR.1 (x_ws_D base dA h) hR.2.2.1 a0 a 0 0 (x_ws_get hat0) (x_ws_get hat) rfl rfl rfl c1 c2 c3 c4 c5 (fun i hi => rfl) (by omega) (by rw [x_cat_tr hf]; omega) hd (fun H1 locs1 q1 q2 q3 => ?_)
        exact kk H1 locs1 ls cells slots ⟨x_w_arr (h := h) rfl hat q1 (fun i' hne => ⟨x_u1_ne hne, rfl, rfl⟩) (by show Sum.inl (_, n1, Sum.inl (x_u1 h.2.1 a _ a)) = _; rw [x_u1_eq]), hR.2.1, q3, hR.2.2.2⟩
      · cases hst
    · cases hst
theorem x_kobi (C : x_Cx p R s m args meth c base b xl sa sv xs fv D dA n0 nL mm) {idx bb pl q : Nat} (hd : decode mm.2.1 pc = .ok (.invokespecial idx, 3)) (ok : x_okz mm (.invokespecial idx, 3, 9999, bb, pl, q) = true)
    (hst : x_obi y pc L M S h = some (.inl (f', h'))) (kk : x_Kp p l e R s m args below meth c Q base b sa sv fv D dA n0 w0 nL f' h') : x_Kp p l e R s m args below meth c Q base b sa sv fv D dA n0 w0 nL (y, pc, L, M, S) h := by
  obtain ⟨hx, hb, hml, hown, hts, -, hG, hfr, hlo, hz1, hz2⟩ := C
  have hf := hG.2.2.2.2.2.2.2.2.2.2.1
  unfold x_okz at ok
  simp only [Bool.and_eq_true, decide_eq_true_eq] at ok
  obtain ⟨⟨hl, hloc⟩, hdep⟩ := ok
  unfold x_obi at hst
  cases hS : x_r1 S with
  | none => rw [hS] at hst; cases hst
  | some t =>
    obtain ⟨o, r⟩ := t
    rw [hS] at hst
    have e := x_r1_s hS
    subst e
    simp only at hst
    split at hst
    · rename_i hc
      obtain ⟨rfl, rfl⟩ := x_go_inj hst
      intro H locs ls cells slots hR
      show W p l e R s m args below meth c H locs cells slots Q (F0 m pc ls (x_tr base b sa sv fv (.ref o) :: r.map (x_tr base b sa sv fv)))
      rw [x_tr_lt hc.1]
      have hcat : 2 * (F0 m pc ls (.ref (base + o) :: r.map (x_tr base b sa sv fv))).monitorRoom + ((r.map (x_tr base b sa sv fv)).map fun v => v.category).sum + 12 ≤ R.locals := by
        rw [x_cat_tr hf]
        show 2 * 0 + _ + 12 ≤ _
        omega
      exact W.objInit (g := F0 m pc ls (.ref (base + o) :: r.map (x_tr base b sa sv fv))) hx hb hown (hts _ (x_tg_s hl rfl)) (hts _ x_oi1) (hts _ x_oi2) rfl (hR.2.2.2.1.1.1.trans hml.symm) rfl hd (by omega) hcat (kk H locs ls cells slots hR)
    · cases hst
theorem x_kmab (C : x_Cx p R s m args meth c base b xl sa sv xs fv D dA n0 nL mm) {idx bb pl : Nat} (hd : decode mm.2.1 pc = .ok (.invokestatic idx, 3)) (ok : x_okz mm (.invokestatic idx, 3, 286, bb, pl, 0) = true) (hB : h'.1.length ≤ n0 + R.cells ∧ x_wt h'.1 ≤ w0 + R.slots)
    (hst : x_mab y pc L M S h = some (.inl (f', h'))) (kk : x_Kp p l e R s m args below meth c Q base b sa sv fv D dA n0 w0 nL f' h') : x_Kp p l e R s m args below meth c Q base b sa sv fv D dA n0 w0 nL (y, pc, L, M, S) h := by
  obtain ⟨hx, hb, hml, hown, hts, -, hG, hfr, hlo, hz1, hz2⟩ := C
  have hf := hG.2.2.2.2.2.2.2.2.2.2.1
  unfold x_okz x_okc at ok
  simp only [Bool.and_eq_true, decide_eq_true_eq] at ok
  have hm : x_m 286 = some (⟨"java/lang/Math", "abs", "(I)I"⟩, prog_15_method_59_code, 1, some .int, 1, 1, 2, 12, 1084, 1083, 0, 158) := by rfl
  rw [hm] at ok
  simp only [Bool.and_eq_true, decide_eq_true_eq] at ok
  obtain ⟨⟨⟨⟨⟨-, -⟩, -⟩, o3⟩, o4⟩, o5⟩ := ok
  unfold x_mab at hst
  cases hS : x_i1 S with
  | none => rw [hS] at hst; cases hst
  | some t =>
    obtain ⟨x, r⟩ := t
    rw [hS] at hst
    have e := x_i1_s hS
    subst e
    simp only at hst
    split at hst
    · rename_i hc
      obtain ⟨rfl, rfl⟩ := x_go_inj hst
      intro H locs ls cells slots hR
      have hlk : (Cond.methodLink mm.1.cls idx Lib.Math.abs.name).before args s = true := by
        exact hts _ (x_tg_s o5 rfl)
      have hcl := hR.2.2.2.2.1
      have hcw := hR.2.2.2.2.2.1
      exact va_mabs hx hb (hml.trans hR.2.2.2.1.1.1.symm) hown hlk (hts _ x_ma0) (hts _ x_mi) (hts _ x_mb0) (by omega) (by rw [x_cat_tr hf]; omega) (by omega) (by omega) hd (kk H locs ls cells slots hR)
    · cases hst
theorem x_kmmx (C : x_Cx p R s m args meth c base b xl sa sv xs fv D dA n0 nL mm) {idx bb pl : Nat} (hd : decode mm.2.1 pc = .ok (.invokestatic idx, 3)) (ok : x_okz mm (.invokestatic idx, 3, 287, bb, pl, 0) = true) (hB : h'.1.length ≤ n0 + R.cells ∧ x_wt h'.1 ≤ w0 + R.slots)
    (hst : x_mth y pc L M S h (fun x z => if x < z then z else x) = some (.inl (f', h'))) (kk : x_Kp p l e R s m args below meth c Q base b sa sv fv D dA n0 w0 nL f' h') : x_Kp p l e R s m args below meth c Q base b sa sv fv D dA n0 w0 nL (y, pc, L, M, S) h := by
  obtain ⟨hx, hb, hml, hown, hts, -, hG, hfr, hlo, hz1, hz2⟩ := C
  have hf := hG.2.2.2.2.2.2.2.2.2.2.1
  unfold x_okz x_okc at ok
  simp only [Bool.and_eq_true, decide_eq_true_eq] at ok
  have hm : x_m 287 = some (⟨"java/lang/Math", "max", "(II)I"⟩, prog_15_method_65_code, 2, some .int, 1, 2, 2, 12, 984, 983, 0, 158) := by rfl
  rw [hm] at ok
  simp only [Bool.and_eq_true, decide_eq_true_eq] at ok
  obtain ⟨⟨⟨⟨⟨-, -⟩, -⟩, o3⟩, o4⟩, o5⟩ := ok
  unfold x_mth at hst
  cases hS : x_ii S with
  | none => rw [hS] at hst; cases hst
  | some t =>
    obtain ⟨x, z, r⟩ := t
    rw [hS] at hst
    have e := x_ii_s hS
    subst e
    simp only at hst
    split at hst
    · rename_i hc
      obtain ⟨rfl, rfl⟩ := x_go_inj hst
      intro H locs ls cells slots hR
      have hlk : (Cond.methodLink mm.1.cls idx Lib.Math.max.name).before args s = true := by
        exact hts _ (x_tg_s o5 rfl)
      have hcl := hR.2.2.2.2.1
      have hcw := hR.2.2.2.2.2.1
      exact va_mmax hx hb (hml.trans hR.2.2.2.1.1.1.symm) hown hlk (hts _ x_ma1) (hts _ x_mi) (hts _ x_mb1) (by omega) (by rw [x_cat_tr hf]; omega) (by omega) (by omega) hd (kk H locs ls cells slots hR)
    · cases hst
theorem x_kmmn (C : x_Cx p R s m args meth c base b xl sa sv xs fv D dA n0 nL mm) {idx bb pl : Nat} (hd : decode mm.2.1 pc = .ok (.invokestatic idx, 3)) (ok : x_okz mm (.invokestatic idx, 3, 288, bb, pl, 0) = true) (hB : h'.1.length ≤ n0 + R.cells ∧ x_wt h'.1 ≤ w0 + R.slots)
    (hst : x_mth y pc L M S h (fun x z => if z < x then z else x) = some (.inl (f', h'))) (kk : x_Kp p l e R s m args below meth c Q base b sa sv fv D dA n0 w0 nL f' h') : x_Kp p l e R s m args below meth c Q base b sa sv fv D dA n0 w0 nL (y, pc, L, M, S) h := by
  obtain ⟨hx, hb, hml, hown, hts, -, hG, hfr, hlo, hz1, hz2⟩ := C
  have hf := hG.2.2.2.2.2.2.2.2.2.2.1
  unfold x_okz x_okc at ok
  simp only [Bool.and_eq_true, decide_eq_true_eq] at ok
  have hm : x_m 288 = some (⟨"java/lang/Math", "min", "(II)I"⟩, prog_15_method_69_code, 2, some .int, 1, 2, 2, 12, 1090, 1089, 0, 158) := by rfl
  rw [hm] at ok
  simp only [Bool.and_eq_true, decide_eq_true_eq] at ok
  obtain ⟨⟨⟨⟨⟨-, -⟩, -⟩, o3⟩, o4⟩, o5⟩ := ok
  unfold x_mth at hst
  cases hS : x_ii S with
  | none => rw [hS] at hst; cases hst
  | some t =>
    obtain ⟨x, z, r⟩ := t
    rw [hS] at hst
    have e := x_ii_s hS
    subst e
    simp only at hst
    split at hst
    · rename_i hc
      obtain ⟨rfl, rfl⟩ := x_go_inj hst
      intro H locs ls cells slots hR
      have hlk : (Cond.methodLink mm.1.cls idx Lib.Math.min.name).before args s = true := by
        exact hts _ (x_tg_s o5 rfl)
      have hcl := hR.2.2.2.2.1
      have hcw := hR.2.2.2.2.2.1
      exact va_mmin hx hb (hml.trans hR.2.2.2.1.1.1.symm) hown hlk (hts _ x_ma2) (hts _ x_mi) (hts _ x_mb2) (by omega) (by rw [x_cat_tr hf]; omega) (by omega) (by omega) hd (kk H locs ls cells slots hR)
    · cases hst
end XSIM
