/-! static calls, constructors -/
section XSIM
variable {p : Program} {l : Launch} {e : Env} {R : Room} {s : State} {m : MethodId} {args : Array Value} {below : List Frame} {meth : Method} {c : Code} {Q : State → Prop}
variable {base b xl sa sv : Nat} {xs : Nat → Int32} {fv : Value} {D : va_G} {dA : Nat → ClassId} {n0 w0 nL : Nat} {mm : x_M}
variable {y pc : Nat} {L : x_L} {M : x_J} {S : List Value} {h h' : x_H} {f' : x_F}
theorem x_krunS (C : x_Cx p R s m args meth c base b xl sa sv xs fv D dA n0 nL mm) {z zn q idx pl len : Nat} {zz : x_M} {As : List Value} {h3 : x_H} {v1 : Option Value} {f1 : x_F} {h1 : x_H} (hz : x_m z = some zz) (hd : decode mm.2.1 pc = .ok (.invokestatic idx, 3)) (ok : x_okc mm idx z zn pl q 1 = true) (oM : x_okM z = true)
    (hst : x_call y pc L M S h z zn = some (.inr (.inr ((z, As), f1, h1)))) (hB : h3.1.length ≤ n0 + R.cells ∧ x_wt h3.1 ≤ w0 + R.slots) (hm : h.1.length ≤ h3.1.length ∧ x_wt h.1 ≤ x_wt h3.1) (hM : x_MetS l base b xl sa sv xs fv D dA z As h v1 h3) (kk : x_Kp p l e R s m args below meth c Q base b sa sv fv D dA n0 w0 nL (x_ps v1 f1) h3) : x_Kp p l e R s m args below meth c Q base b sa sv fv D dA n0 w0 nL (y, pc, L, M, S) h := by
  have hMz := hM zz hz
  obtain ⟨hx, hb, hml, hown, hts, -, hG, hfr, hlo, hz1, hz2⟩ := id C
  have hf := hG.2.2.2.2.2.2.2.2.2.2.1
  unfold x_okc at ok
  rw [hz] at ok
  simp only [Bool.and_eq_true, decide_eq_true_eq] at ok
  obtain ⟨⟨⟨⟨⟨-, o1⟩, o2⟩, o3⟩, o4⟩, o5⟩ := ok
  unfold x_okM at oM
  rw [hz] at oM
  simp only [Bool.and_eq_true, decide_eq_true_eq] at oM
  obtain ⟨⟨⟨⟨m1, m2⟩, m3⟩, -⟩, m5⟩ := oM
  rw [o1] at m5
  simp only at m5
  unfold x_call at hst
  split at hst
  · rename_i As0 r hpop
    split at hst
    · rename_i hcat
      cases hst
      obtain ⟨hlA, hS⟩ := x_pop0 hpop
      refine x_kcall (a := #[]) (r := r) C hm (fun H locs ls cells slots hR hsz => ?_) kk
      have hps : PreS s H (x_Pc base b xl sa sv xs fv D dA h As) (As.map (x_tr base b sa sv fv)) := ⟨x_blind, fun U hU hW => x_pre C hR hsz As U hU hW⟩
      split at o5
      · have hnw := hG.2.2.2.2.2.2.2.2.2.2.2.2 _ (x_tb_s o5) rfl
        exact va_runSN (As := As.map (x_tr base b sa sv fv)) (rest := r.map (x_tr base b sa sv fv)) (H := H) (locs := locs) (cells := cells) (slots := slots) (g := F0 m pc ls (S.map (x_tr base b sa sv fv))) ⟨hx, hb, hml, hown, hts⟩ hMz
          ⟨va_cnB zn hts (x_goodIn (x_wd_in (x_tg_s m1 rfl))) rfl rfl rfl hnw (hts _ (x_tg_s m2 rfl)) ⟨m3.1, m3.2.1, by rw [← o2]; exact m3.2.2⟩ ⟨Nat.le_trans o3 hfr, Nat.le_trans o4 hlo⟩, hts _ (x_tg_s m5 rfl), trivial⟩ hps rfl (by rw [List.length_map]; exact hlA) hR.2.2.2.1.1.1 (by
        show S.map _ = _
        rw [hS, List.map_append, List.map_reverse]) (by
        rw [x_cat_tr hf]
        show 2 * 0 + _ ≤ 8
        omega) hd ⟨by
          have := hR.2.2.2.2.1
          show cells + (h3.1.length - h.1.length) ≤ R.cells
          omega, by
          have := hR.2.2.2.2.2.1
          show slots + (x_wt h3.1 - x_wt h.1) ≤ R.slots
          omega⟩
      · exact va_runS (As := As.map (x_tr base b sa sv fv)) (rest := r.map (x_tr base b sa sv fv)) (H := H) (locs := locs) (cells := cells) (slots := slots) (g := F0 m pc ls (S.map (x_tr base b sa sv fv))) ⟨hx, hb, hml, hown, hts⟩ hMz
          (va_cwS zn hts (x_goodIn (fun w hw => by
            unfold va_wsS at hw
            rcases List.mem_append.mp hw with hw | hw
            · simp only [List.mem_cons, List.not_mem_nil, or_false] at hw
              rcases hw with rfl | rfl | rfl
              · exact x_tg_s o5 rfl
              · exact x_tg_s m5 rfl
              · exact x_tg_s m2 rfl
            · exact x_wd_in (x_tg_s m1 rfl) w hw)) rfl rfl rfl ⟨m3.1, m3.2.1, by rw [← o2]; exact m3.2.2⟩ ⟨Nat.le_trans o3 hfr, Nat.le_trans o4 hlo⟩) hps rfl (by rw [List.length_map]; exact hlA) hR.2.2.2.1.1.1 (by
        show S.map _ = _
        rw [hS, List.map_append, List.map_reverse]) (by
        rw [x_cat_tr hf]
        show 2 * 0 + _ ≤ 8
        omega) hd ⟨by
          have := hR.2.2.2.2.1
          show cells + (h3.1.length - h.1.length) ≤ R.cells
          omega, by
          have := hR.2.2.2.2.2.1
          show slots + (x_wt h3.1 - x_wt h.1) ≤ R.slots
          omega⟩
    · cases hst
  · cases hst
theorem x_krunI (C : x_Cx p R s m args meth c base b xl sa sv xs fv D dA n0 nL mm) {z zn q idx pl len : Nat} {zz : x_M} {As : List Value} {h3 : x_H} {v1 : Option Value} {f1 : x_F} {h1 : x_H} (hz : x_m z = some zz) (hd : decode mm.2.1 pc = .ok (.invokespecial idx, 3)) (ok : x_okc mm idx z zn pl q 2 = true) (oM : x_okM z = true)
    (hst : x_callv y pc L M S h z zn = some (.inr (.inr ((z, As), f1, h1)))) (hB : h3.1.length ≤ n0 + R.cells ∧ x_wt h3.1 ≤ w0 + R.slots) (hm : h.1.length ≤ h3.1.length ∧ x_wt h.1 ≤ x_wt h3.1) (hM : x_MetS l base b xl sa sv xs fv D dA z As h v1 h3) (kk : x_Kp p l e R s m args below meth c Q base b sa sv fv D dA n0 w0 nL (x_ps v1 f1) h3) : x_Kp p l e R s m args below meth c Q base b sa sv fv D dA n0 w0 nL (y, pc, L, M, S) h := by
  have hMz := hM zz hz
  obtain ⟨hx, hb, hml, hown, hts, -, hG, hfr, hlo, hz1, hz2⟩ := id C
  have hf := hG.2.2.2.2.2.2.2.2.2.2.1
  unfold x_okc at ok
  rw [hz] at ok
  simp only [Bool.and_eq_true, decide_eq_true_eq] at ok
  obtain ⟨⟨⟨⟨⟨-, o1⟩, o2⟩, o3⟩, o4⟩, o5⟩ := ok
  unfold x_okM at oM
  rw [hz] at oM
  simp only [Bool.and_eq_true, decide_eq_true_eq] at oM
  obtain ⟨⟨⟨⟨m1, m2⟩, m3⟩, -⟩, m5⟩ := oM
  rw [o1] at m5
  simp only [Bool.and_eq_true, decide_eq_true_eq] at m5
  obtain ⟨⟨m6, m7⟩, m8⟩ := m5
  unfold x_callv at hst
  split at hst
  · rename_i As0 o r hpop
    split at hst
    · rename_i hcat
      cases hst
      obtain ⟨hlA, hS⟩ := x_pop0 hpop
      refine x_kcall (a := #[]) (r := r) C hm (fun H locs ls cells slots hR hsz => ?_) kk
      have hbo : x_tr base b sa sv fv (.ref o) = .ref (base + o) := x_tr_lt hcat.1
      have hcat2 := hcat.2
      have hMz2 : Met l zz.1 (Cond.code zz.1 zz.2.1 zz.2.2.1 none :: lw_g) (x_rm zz h h3) (x_Pc base b xl sa sv xs fv D dA h (.ref o :: As0)) (x_Qc base b sa sv fv D dA v1 h3) (h3.1.length - h.1.length) (x_wt h3.1 - x_wt h.1) (fun q => base ≤ q) := by
        have q := hMz
        unfold x_wd at q
        rw [m8] at q
        exact q
      have m1' : Cond.code zz.1 zz.2.1 zz.2.2.1 none ∈ lw_g := by
        have q := x_tg_s m1 rfl
        rw [m8] at q
        exact q
      have hps : PreS s H (x_Pc base b xl sa sv xs fv D dA h (.ref o :: As0)) (.ref (base + o) :: As0.map (x_tr base b sa sv fv)) := ⟨x_blind, fun U hU hW => by
          have q := x_pre C hR hsz (.ref o :: As0) U hU hW
          rw [List.map_cons, hbo] at q
          exact q⟩
      split at o5
      · have hnw := hG.2.2.2.2.2.2.2.2.2.2.2.2 _ (x_tb_s o5) rfl
        exact va_runIN (As := As0.map (x_tr base b sa sv fv)) (rest := r.map (x_tr base b sa sv fv)) (b := base + o) (H := H) (locs := locs) (cells := cells) (slots := slots) (g := F0 m pc ls (S.map (x_tr base b sa sv fv))) ⟨hx, hb, hml, hown, hts⟩ hMz2
          ⟨va_cnB zn hts (x_goodIn (fun w hw => by
          rcases List.mem_cons.mp hw with rfl | hw
          · exact m1'
          · exact hw)) rfl rfl rfl hnw (hts _ (x_tg_s m2 rfl)) ⟨m3.1, m3.2.1, by rw [← o2]; exact m3.2.2⟩ ⟨Nat.le_trans o3 hfr, Nat.le_trans o4 hlo⟩, m7, hts _ (x_tg_s m6 rfl)⟩ hps rfl (by rw [List.length_map]; exact hlA) hR.2.2.2.1.1.1 (by
        show S.map _ = _
        rw [hS, List.map_append, List.map_reverse, List.map_cons, hbo]) (by
        rw [x_cat_tr hf]
        show 2 * 0 + _ ≤ 8
        omega) hd ⟨by
          have := hR.2.2.2.2.1
          show cells + (h3.1.length - h.1.length) ≤ R.cells
          omega, by
          have := hR.2.2.2.2.2.1
          show slots + (x_wt h3.1 - x_wt h.1) ≤ R.slots
          omega⟩
      · exact va_runI (As := As0.map (x_tr base b sa sv fv)) (rest := r.map (x_tr base b sa sv fv)) (b := base + o) (H := H) (locs := locs) (cells := cells) (slots := slots) (g := F0 m pc ls (S.map (x_tr base b sa sv fv))) ⟨hx, hb, hml, hown, hts⟩ hMz2
          (cwI zn hts (x_goodIn (fun w hw => by
          rcases List.mem_cons.mp hw with rfl | hw
          · exact m1'
          · exact hw)) rfl rfl rfl (hts _ (x_tg_s m2 rfl)) (hts _ (x_tg_s o5 rfl)) (hts _ (x_tg_s m6 rfl)) m7 ⟨m3.1, m3.2.1, by rw [← o2]; exact m3.2.2⟩ ⟨Nat.le_trans o3 hfr, Nat.le_trans o4 hlo⟩) hps rfl (by rw [List.length_map]; exact hlA) hR.2.2.2.1.1.1 (by
        show S.map _ = _
        rw [hS, List.map_append, List.map_reverse, List.map_cons, hbo]) (by
        rw [x_cat_tr hf]
        show 2 * 0 + _ ≤ 8
        omega) hd ⟨by
          have := hR.2.2.2.2.1
          show cells + (h3.1.length - h.1.length) ≤ R.cells
          omega, by
          have := hR.2.2.2.2.2.1
          show slots + (x_wt h3.1 - x_wt h.1) ≤ R.slots
          omega⟩
    · cases hst
  · cases hst
end XSIM
/-! a method gives back -/
theorem x_m_lt {z : Nat} {zz : x_M} (h : x_m z = some zz) : z < 304 := by
  unfold x_m at h
  split at h
  · rename_i l hl
    rw [x_at_eq] at hl
    have := (List.getElem?_eq_some_iff.mp hl).1
    have h19 : x_ms.length = 19 := rfl
    omega
  · cases h
theorem x_st_s {xs : Nat → Int32} {xl y pc : Nat} {L : x_L} {M : x_J} {S : List Value} {h : x_H} {z : x_O} (hs : x_st xs xl (y, pc, L, M, S) h = some z) : ∃ e0, x_ins y pc = some e0 ∧ x_lok e0 = true ∧ x_op xs xl y pc L M S h e0 = some z := by
  unfold x_st at hs
  split at hs
  · rename_i e0 he
    split at hs
    · rename_i hl
      exact ⟨e0, he, hl, hs⟩
    · cases hs
  · cases hs
section XSIM
variable {p : Program} {l : Launch} {e : Env} {R : Room} {s : State} {m : MethodId} {args : Array Value} {below : List Frame} {meth : Method} {c : Code} {Q : State → Prop}
variable {base b xl sa sv : Nat} {xs : Nat → Int32} {fv : Value} {D : va_G} {dA : Nat → ClassId} {n0 w0 nL : Nat} {mm : x_M}
variable {y pc : Nat} {L : x_L} {M : x_J} {S : List Value} {h h' : x_H} {f' : x_F}
theorem x_kret (C : x_Cx p R s m args meth c base b xl sa sv xs fv D dA n0 nL mm) (hy : x_m y = some mm) (hr : meth.sig.returnType = mm.2.2.2.1) (hlocks : meth.locks = false) {e0 : x_E} (ok : x_okb y pc e0 = true) (hlen : x_lok e0 = true) {v : Option Value} {h2 : x_H} (hst : x_op xs xl y pc L M S h e0 = some (.inr (.inl (v, h2)))) :
    x_Kp p l e R s m args below meth c (MQ below (x_Qc base b sa sv fv D dA v h2) args s (h2.1.length - n0) (x_wt h2.1 - w0) (fun q => base ≤ q)) base b sa sv fv D dA n0 w0 nL (y, pc, L, M, S) h := by
  obtain ⟨ins, len, a, k, pl, q⟩ := e0
  unfold x_okb at ok
  rw [hy] at ok
  simp only [Bool.and_eq_true, decide_eq_true_eq] at ok
  obtain ⟨hd, ok⟩ := ok
  obtain ⟨hx, hb, hml, hown, hts, hnm, hG, hfr, hlo, hz1, hz2⟩ := id C
  rcases x_op_cases hst with ⟨f', h', z⟩ | ⟨idx, rfl, -, hs⟩ | ⟨idx, rfl, hs⟩ | ⟨idx, rfl, -, -, -, -, hs⟩ | ⟨rfl, hs⟩ | ⟨rfl, hs⟩ | ⟨rfl, hs⟩
  · cases z
  · unfold x_callv at hs
    repeat' split at hs
    all_goals cases hs
  · unfold x_calld at hs
    repeat' split at hs
    all_goals cases hs
  · unfold x_call at hs
    repeat' split at hs
    all_goals cases hs
  · have hln : len = 1 := Nat.eq_of_beq_eq_true hlen
    subst hln
    unfold x_iret at hs
    split at hs
    · rename_i v0
      rw [hy] at hs
      simp only at hs
      split at hs
      · rename_i hnok
        cases hs
        obtain ⟨ty, hty, hn⟩ : ∃ ty, mm.2.2.2.1 = some ty ∧ narrow ty (.int v0) = .int v0 := by
          unfold x_okz at ok
          simp only at ok
          unfold x_nok at hnok
          split at ok
          · rename_i ht; rw [ht]; exact ⟨_, rfl, rfl⟩
          · rename_i ht
            rw [ht] at hnok
            simp only [Bool.or_eq_true, decide_eq_true_eq] at hnok
            rw [ht]
            refine ⟨_, rfl, ?_⟩
            rcases hnok with rfl | rfl <;> rfl
          · rename_i ht
            rw [ht] at hnok
            rw [ht]
            exact ⟨_, rfl, of_decide_eq_true hnok⟩
          · rename_i ht
            rw [ht] at hnok
            rw [ht]
            exact ⟨_, rfl, of_decide_eq_true hnok⟩
          · cases ok
        intro H locs ls cells slots hR
        obtain ⟨hP, hN, hS0, hl4, h5, h6, hvv⟩ := hR
        have e1 : h.1.length - n0 = cells := by omega
        have e2 : x_wt h.1 - w0 = slots := by omega
        rw [e1, e2]
        exact W.zret (ty := ty) hx hb (hr.trans hty) hn (fun t ht hW => ⟨rfl, by rw [ht]; exact hP, hN, hvv, hS0.F ht⟩) hS0.2.2 hd hlocks
      · cases hs
    · cases hs
  · have hln : len = 1 := Nat.eq_of_beq_eq_true hlen
    subst hln
    unfold x_jret at hs
    split at hs
    · cases hs
      have hty : mm.2.2.2.1 = some .long := of_decide_eq_true ok
      intro H locs ls cells slots hR
      obtain ⟨hP, hN, hS0, hl4, h5, h6, hvv⟩ := hR
      have e1 : h.1.length - n0 = cells := by omega
      have e2 : x_wt h.1 - w0 = slots := by omega
      rw [e1, e2]
      exact W.lret hx hb (hr.trans hty) (fun t ht hW => ⟨rfl, by rw [ht]; exact hP, hN, hvv, hS0.F ht⟩) hS0.2.2 hd hlocks
    · cases hs
  · have hln : len = 1 := Nat.eq_of_beq_eq_true hlen
    subst hln
    unfold x_vret at hs
    split at hs
    · cases hs
      have hty : mm.2.2.2.1 = none := of_decide_eq_true ok
      intro H locs ls cells slots hR
      obtain ⟨hP, hN, hS0, hl4, h5, h6, hvv⟩ := hR
      have e1 : h.1.length - n0 = cells := by omega
      have e2 : x_wt h.1 - w0 = slots := by omega
      rw [e1, e2]
      exact W.vret hx hb (hr.trans hty) (fun t ht hW => ⟨rfl, by rw [ht]; exact hP, hN, hvv, hS0.F ht⟩) hS0.2.2 hd hlocks
    · cases hs
end XSIM
