/-! fields, arrays, what is made -/
section XSIM
variable {p : Program} {l : Launch} {e : Env} {R : Room} {s : State} {m : MethodId} {args : Array Value} {below : List Frame} {meth : Method} {c : Code} {Q : State → Prop}
variable {base b xl sa sv : Nat} {xs : Nat → Int32} {fv : Value} {D : va_G} {dA : Nat → ClassId} {n0 w0 nL : Nat} {mm : x_M}
variable {y pc : Nat} {L : x_L} {M : x_J} {S : List Value} {h h' : x_H} {f' : x_F}
theorem x_kgf (C : x_Cx p R s m args meth c base b xl sa sv xs fv D dA n0 nL mm) {idx a k pl q : Nat} (hd : decode mm.2.1 pc = .ok (.getfield idx, 3))
    (ok : x_okz mm (.getfield idx, 3, a, k, pl, q) = true) (hst : x_gf y pc L M S h a k q = some (.inl (f', h'))) (kk : x_Kp p l e R s m args below meth c Q base b sa sv fv D dA n0 w0 nL f' h') : x_Kp p l e R s m args below meth c Q base b sa sv fv D dA n0 w0 nL (y, pc, L, M, S) h := by
  obtain ⟨hx, hb, -, hown, hts, -, hG, -⟩ := C
  obtain ⟨hK, -, -, -, -, hco, hva, -, -, -, hf, -⟩ := hG
  unfold x_gf at hst
  cases hS : x_r1 S with
  | none => rw [hS] at hst; cases hst
  | some t =>
    obtain ⟨o, r⟩ := t
    rw [hS] at hst
    have e := x_r1_s hS
    subst e
    simp only at hst
    unfold x_okz at ok
    simp only at ok
    split at hst
    · split at hst
      · rename_i ho
        subst ho
        obtain ⟨rfl, rfl⟩ := x_go_inj hst
        intro H locs ls cells slots hR
        exact vk_getf hx hb hva hR.2.2.1 hown (hts _ (x_tg_s ok rfl)) (fun x h => h) hd (kk H locs ls cells slots hR)
      · cases hst
    · split at hst
      · rename_i ho
        subst ho
        obtain ⟨rfl, rfl⟩ := x_go_inj hst
        intro H locs ls cells slots hR
        exact vk_getf hx hb hco hR.2.2.1 hown (hts _ (x_tg_s ok rfl)) (fun x h => h) hd (kk H locs ls cells slots hR)
      · cases hst
    · rename_i n1 n2
      split at ok
      · exact absurd rfl n1
      · exact absurd rfl n2
      · unfold x_okf at ok
        simp only [Bool.and_eq_true, decide_eq_true_eq] at ok
        obtain ⟨⟨⟨hc, hk⟩, hl⟩, hq⟩ := ok
        cases hob : x_ob h o a with
        | false => rw [hob] at hst; cases hst
        | true =>
          rw [hob] at hst
          simp only at hst
          have hat := x_ob_s hob
          split at hst
          · obtain ⟨rfl, rfl⟩ := x_go_inj hst
            intro H locs ls cells slots hR
            obtain ⟨hP, hN, hS0, hl4, h5, h6, hv⟩ := id hR
            have ho := x_lt_of hat hN
            show W p l e R s m args below meth c H locs cells slots Q (F0 m pc ls (x_tr base b sa sv fv (.ref o) :: r.map (x_tr base b sa sv fv)))
            rw [x_tr_lt ho]
            refine va_get (v := x_fv base a o h k) hx hb hts (x_in_all a hc) hown hK hP o (x_ws_get hat) (x_cl_get a hc) k hk (hts _ (x_tg_s hl rfl)) (fun x h => h) (x_fs_get hk) hd ?_
            have e1 : x_fv base a o h k = x_tr base b sa sv fv (x_rv (h.2.2.2 o k)) := by
              unfold x_fv
              simp only at hq
              rw [hq]
              simp only
              cases hz : h.2.2.2 o k with
              | none => rfl
              | some j => exact (x_tr_lt (hv o k j hz)).symm
            rw [e1]
            exact kk H locs ls cells slots hR
          · rename_i nq
            obtain ⟨rfl, rfl⟩ := x_go_inj hst
            intro H locs ls cells slots hR
            obtain ⟨hP, hN, hS0, hl4, h5, h6, hv⟩ := id hR
            have ho := x_lt_of hat hN
            show W p l e R s m args below meth c H locs cells slots Q (F0 m pc ls (x_tr base b sa sv fv (.ref o) :: r.map (x_tr base b sa sv fv)))
            rw [x_tr_lt ho]
            refine va_get (v := x_fv base a o h k) hx hb hts (x_in_all a hc) hown hK hP o (x_ws_get hat) (x_cl_get a hc) k hk (hts _ (x_tg_s hl rfl)) (fun x h => h) (x_fs_get hk) hd ?_
            have e1 : x_fv base a o h k = .int (h.2.1 o k) := by
              unfold x_fv
              have hz : x_isr (x_ty a k) = false := by
                split at hq
                · rw [of_decide_eq_true hq]; rfl
                · exact absurd rfl nq
                · simp only [Bool.and_eq_true, decide_eq_true_eq] at hq
                  rw [hq.2]; rfl
              rw [hz]
            rw [e1]
            exact kk H locs ls cells slots hR
theorem x_fv_congr {a i k : Nat} {h1 h2 : x_H} (e1 : h2.2.1 i k = h1.2.1 i k) (e2 : h2.2.2.2 i k = h1.2.2.2 i k) : x_fv base a i h2 k = x_fv base a i h1 k := by
  unfold x_fv
  rw [e1, e2]
/-- a field is set: the world behind it -/
theorem x_w_put {o a k : Nat} {v : Value} {H1 : Heap} {hi : Nat → Nat → Int32} {hr : Nat → Nat → Option Nat} (hat : h.1[o]? = some (.inl a)) (hk : k < (x_cn a).2.2) (e1 : ∀ i, i ≠ o → hi i = h.2.1 i) (e2 : ∀ i, i ≠ o → hr i = h.2.2.2 i)
    (e3 : ∀ k', k' ≠ k → hi o k' = h.2.1 o k' ∧ hr o k' = h.2.2.2 o k') (hv : x_fv base a o (h.1, hi, h.2.2.1, hr) k = v)
    (hP : va_P D x_cl ((x_ws base dA h).set o (base + o, .inr (a, ((List.range (x_cn a).2.2).map (x_fv base a o h)).set k v))) H1) : va_P D x_cl (x_ws base dA (h.1, hi, h.2.2.1, hr)) H1 := by
  rw [x_ws_set (h := h) (h' := (h.1, hi, h.2.2.1, hr)) rfl hat (fun i hne => ⟨e1 i hne, rfl, e2 i hne⟩)]
  have e : x_ct base dA (h.1, hi, h.2.2.1, hr) o (.inl a) = .inr (a, ((List.range (x_cn a).2.2).map (x_fv base a o h)).set k v) := by
    show Sum.inr (a, _) = _
    rw [x_fs_set hk (fun k' hk' => ?_) hv]
    exact x_fv_congr (e3 k' hk').1 (e3 k' hk').2
  rw [e]
  exact hP
theorem x_kpf (C : x_Cx p R s m args meth c base b xl sa sv xs fv D dA n0 nL mm) {idx a k pl q : Nat} (hd : decode mm.2.1 pc = .ok (.putfield idx, 3))
    (ok : x_okz mm (.putfield idx, 3, a, k, pl, q) = true) (hst : x_pf y pc L M S h a k q = some (.inl (f', h'))) (kk : x_Kp p l e R s m args below meth c Q base b sa sv fv D dA n0 w0 nL f' h') : x_Kp p l e R s m args below meth c Q base b sa sv fv D dA n0 w0 nL (y, pc, L, M, S) h := by
  obtain ⟨hx, hb, -, hown, hts, hnm, hG, -⟩ := C
  obtain ⟨hK, -⟩ := hG
  unfold x_okz x_okf at ok
  simp only [Bool.and_eq_true, decide_eq_true_eq] at ok
  obtain ⟨⟨⟨⟨hc, hk⟩, hl⟩, hq⟩, hfin⟩ := ok
  have hT := x_ty_all a hc
  -- the row, for a value of the field's type
  have row : ∀ (v v' : Value) (o : Nat) (r : List Value) (hi : Nat → Nat → Int32) (hr : Nat → Nat → Option Nat), S = v :: .ref o :: r → x_ob h o a = true → x_tr base b sa sv fv v = v' → narrow (x_ty a k) v' = v' → fits (x_ty a k) v' = true →
      (∀ i, i ≠ o → hi i = h.2.1 i) → (∀ i, i ≠ o → hr i = h.2.2.2 i) → (∀ k', k' ≠ k → hi o k' = h.2.1 o k' ∧ hr o k' = h.2.2.2 o k') → x_fv base a o (h.1, hi, h.2.2.1, hr) k = v' → (∀ i k j, hr i k = some j → (∃ i' k', h.2.2.2 i' k' = some j) ∨ j < 100000) →
      x_Kp p l e R s m args below meth c Q base b sa sv fv D dA n0 w0 nL (y, pc + 3, L, M, r) (h.1, hi, h.2.2.1, hr) → x_Kp p l e R s m args below meth c Q base b sa sv fv D dA n0 w0 nL (y, pc, L, M, S) h := by
    intro v v' o r hi hr e hob hv' hn hft e1 e2 e3 hfv hval kk
    subst e
    have hat := x_ob_s hob
    intro H locs ls cells slots hR
    obtain ⟨hP, hN, hS0, hl4, h5, h6, hv⟩ := hR
    have ho := x_lt_of hat hN
    show W p l e R s m args below meth c H locs cells slots Q (F0 m pc ls (x_tr base b sa sv fv v :: x_tr base b sa sv fv (.ref o) :: r.map (x_tr base b sa sv fv)))
    rw [x_tr_lt ho, hv']
    have fin : ∀ (H1 : Heap) (locs1 : List Loc), va_P D x_cl ((x_ws base dA h).set o (base + o, .inr (a, ((List.range (x_cn a).2.2).map (x_fv base a o h)).set k v'))) H1 → va_D (fun q => base ≤ q) ((x_ws base dA h).set o (base + o, .inr (a, ((List.range (x_cn a).2.2).map (x_fv base a o h)).set k v'))) → va_S (fun q => base ≤ q) s.heap H1 locs1 → W p l e R s m args below meth c H1 locs1 cells slots Q (F0 m (pc + 3) ls (r.map (x_tr base b sa sv fv))) := by
      intro H1 locs1 q1 q2 q3
      exact kk H1 locs1 ls cells slots ⟨x_w_put hat hk e1 e2 e3 hfv q1, hN, q3, hl4, h5, h6, fun i k j hj => (hval i k j hj).elim (fun ⟨i', k', z⟩ => hv i' k' j z) id⟩
    have hlen : k < ((List.range (x_cn a).2.2).map (x_fv base a o h)).length := by rw [List.length_map, List.length_range]; exact hk
    cases hfn : ((x_cn a).2.1 k).2.2.2 with
    | false =>
      exact va_put hx hb hts (x_in_all a hc) (x_ty a) hT (x_nm_all a hc) hown hK hP (x_ws_D base dA h) hS0 o (x_ws_get hat) (x_cl_get a hc) k hk (hts _ (x_tg_s hl rfl)) (fun x h => h) hfn (hT k hk) hn hft hlen hd fin
    | true =>
      rw [hfn] at hfin
      simp only [Bool.not_true, Bool.false_or, Bool.and_eq_true, decide_eq_true_eq] at hfin
      exact va_putF hx hb hts (x_in_all a hc) (x_ty a) hT (x_nm_all a hc) hown hK hP (x_ws_D base dA h) hS0 o (x_ws_get hat) (x_cl_get a hc) k hk (hts _ (x_tg_s hl rfl)) (fun x h => h) hfn (hnm.trans hfin.1) hfin.2 (hT k hk) hn hft hlen hd fin
  unfold x_pf at hst
  split at hst
  · cases hS : x_rr S with
    | none => rw [hS] at hst; cases hst
    | some t =>
      obtain ⟨v, o, r⟩ := t
      rw [hS] at hst
      simp only at hst
      cases hob : x_ob h o a with
      | false => rw [hob] at hst; cases hst
      | true =>
        rw [hob] at hst
        simp only at hst
        split at hst
        · rename_i hv
          obtain ⟨rfl, rfl⟩ := x_go_inj hst
          simp only at hq
          obtain ⟨g1, g2, -⟩ := x_isr_fit hq (base + v)
          refine row (.ref v) (.ref (base + v)) o r h.2.1 (x_u2 h.2.2.2 o k (some v)) (x_rr_s hS) hob (x_tr_lt hv) g1 g2 (fun i _ => rfl) (fun i hne => x_u2_ne hne) (fun k' hk' => ⟨rfl, by rw [x_u2_eq]; exact if_neg hk'⟩) ?_ ?_ kk
          · unfold x_fv
            rw [hq]
            simp only [x_u2_eq, if_true]
          · intro i k2 j hj
            by_cases hi : i = o
            · subst hi
              rw [x_u2_eq] at hj
              simp only at hj
              split at hj
              · cases hj; exact Or.inr hv
              · exact Or.inl ⟨_, _, hj⟩
            · rw [x_u2_ne hi] at hj
              exact Or.inl ⟨_, _, hj⟩
        · cases hst
  · cases hS : x_ir S with
    | none => rw [hS] at hst; cases hst
    | some t =>
      obtain ⟨v, o, r⟩ := t
      rw [hS] at hst
      simp only at hst
      cases hob : x_ob h o a with
      | false => rw [hob] at hst; cases hst
      | true =>
        rw [hob] at hst
        simp only at hst
        split at hst
        · rename_i hv
          obtain ⟨rfl, rfl⟩ := x_go_inj hst
          simp only [Bool.and_eq_true, decide_eq_true_eq] at hq
          refine row (.int v) (.int v) o r (x_u2 h.2.1 o k v) h.2.2.2 (x_ir_s hS) hob rfl (by rw [hq.2]; rcases hv with rfl | rfl <;> rfl) (by rw [hq.2]; rcases hv with rfl | rfl <;> rfl) (fun i hne => x_u2_ne hne) (fun i _ => rfl) (fun k' hk' => ⟨by rw [x_u2_eq]; exact if_neg hk', rfl⟩) ?_ (fun i k j hj => Or.inl ⟨_, _, hj⟩) kk
          unfold x_fv
          rw [hq.2]
          show Value.int _ = _
          simp only [x_u2_eq, if_true]
        · cases hst
  · rename_i n1 n2
    cases hS : x_ir S with
    | none => rw [hS] at hst; cases hst
    | some t =>
      obtain ⟨v, o, r⟩ := t
      rw [hS] at hst
      simp only at hst
      cases hob : x_ob h o a with
      | false => rw [hob] at hst; cases hst
      | true =>
        rw [hob] at hst
        simp only at hst
        obtain ⟨rfl, rfl⟩ := x_go_inj hst
        have hty : x_ty a k = .int := by
          split at hq
          · exact of_decide_eq_true hq
          · exact absurd rfl n1
          · simp only [Bool.and_eq_true, decide_eq_true_eq] at hq
            exact absurd hq.1 n2
        refine row (.int v) (.int v) o r (x_u2 h.2.1 o k v) h.2.2.2 (x_ir_s hS) hob rfl (by rw [hty]; rfl) (by rw [hty]; rfl) (fun i hne => x_u2_ne hne) (fun i _ => rfl) (fun k' hk' => ⟨by rw [x_u2_eq]; exact if_neg hk', rfl⟩) ?_ (fun i k j hj => Or.inl ⟨_, _, hj⟩) kk
        unfold x_fv
        rw [hty]
        show Value.int _ = _
        simp only [x_u2_eq, if_true]
end XSIM
