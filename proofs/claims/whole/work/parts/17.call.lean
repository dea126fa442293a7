/-! which steps are calls, which give back -/
def x_ol (o : Option x_O) : Prop := ∀ z, o = some z → ∃ (f' : x_F) (h' : x_H), z = .inl (f', h')
section XOL
variable {y pc : Nat} {L : x_L} {M : x_J} {S : List Value} {h : x_H}
theorem x_ol_none : x_ol none := fun z hz => by cases hz
theorem x_ol_go {h1 : x_H} : x_ol (x_go y pc L M S h1) := fun z hz => by cases hz; exact ⟨_, _, rfl⟩
theorem x_ol_in {i : Int32} {n : Nat} {A : Option x_O} (hA : x_ol A) : x_ol (x_in? i n A) := by
  unfold x_in?
  split
  · exact x_ol_none
  · exact hA
theorem x_ol_psh {v : Option Value} {pc' : Nat} : x_ol (x_psh y pc' L M S h v) := by
  unfold x_psh
  repeat' split
  all_goals (first | exact x_ol_none | exact x_ol_go | exact x_ol_in x_ol_go)
theorem x_ol_jmp {t : Option Nat} : x_ol (x_jmp y L M S h t) := by
  unfold x_jmp
  repeat' split
  all_goals (first | exact x_ol_none | exact x_ol_go | exact x_ol_in x_ol_go)
theorem x_ol_bin {fn : Int32 → Int32 → Option Int32} : x_ol (x_bin y pc L M S h fn) := by
  unfold x_bin
  repeat' split
  all_goals (first | exact x_ol_none | exact x_ol_go | exact x_ol_in x_ol_go)
theorem x_ol_un {fn : Int32 → Value} : x_ol (x_un y pc L M S h fn) := by
  unfold x_un
  repeat' split
  all_goals (first | exact x_ol_none | exact x_ol_go | exact x_ol_in x_ol_go)
theorem x_ol_lbin {fn : Int64 → Int64 → Value} : x_ol (x_lbin y pc L M S h fn) := by
  unfold x_lbin
  repeat' split
  all_goals (first | exact x_ol_none | exact x_ol_go | exact x_ol_in x_ol_go)
theorem x_ol_si {i : Nat} : x_ol (x_si y pc i L M S h) := by
  unfold x_si
  repeat' split
  all_goals (first | exact x_ol_none | exact x_ol_go | exact x_ol_in x_ol_go)
theorem x_ol_sa {i : Nat} : x_ol (x_sa y pc i L M S h) := by
  unfold x_sa
  repeat' split
  all_goals (first | exact x_ol_none | exact x_ol_go | exact x_ol_in x_ol_go)
theorem x_ol_sj {i : Nat} : x_ol (x_sj y pc i L M S h) := by
  unfold x_sj
  repeat' split
  all_goals (first | exact x_ol_none | exact x_ol_go | exact x_ol_in x_ol_go)
theorem x_ol_inc {i : Nat} {n : Int} : x_ol (x_inc y pc i n L M S h) := by
  unfold x_inc
  repeat' split
  all_goals (first | exact x_ol_none | exact x_ol_go | exact x_ol_in x_ol_go)
theorem x_ol_gf {a k q : Nat} : x_ol (x_gf y pc L M S h a k q) := by
  unfold x_gf
  repeat' split
  all_goals (first | exact x_ol_none | exact x_ol_go | exact x_ol_in x_ol_go)
theorem x_ol_pf {a k q : Nat} : x_ol (x_pf y pc L M S h a k q) := by
  unfold x_pf
  repeat' split
  all_goals (first | exact x_ol_none | exact x_ol_go | exact x_ol_in x_ol_go)
theorem x_ol_iald {xs : Nat → Int32} {xl : Nat} : x_ol (x_iald xs xl y pc L M S h) := by
  unfold x_iald
  repeat' split
  all_goals (first | exact x_ol_none | exact x_ol_go | exact x_ol_in x_ol_go)
theorem x_ol_bald  : x_ol (x_bald y pc L M S h) := by
  unfold x_bald
  repeat' split
  all_goals (first | exact x_ol_none | exact x_ol_go | exact x_ol_in x_ol_go)
theorem x_ol_jald  : x_ol (x_jald y pc L M S h) := by
  unfold x_jald
  repeat' split
  all_goals (first | exact x_ol_none | exact x_ol_go | exact x_ol_in x_ol_go)
theorem x_ol_aald  : x_ol (x_aald y pc L M S h) := by
  unfold x_aald
  repeat' split
  all_goals (first | exact x_ol_none | exact x_ol_go | exact x_ol_in x_ol_go)
theorem x_ol_iast  : x_ol (x_iast y pc L M S h) := by
  unfold x_iast
  repeat' split
  all_goals (first | exact x_ol_none | exact x_ol_go | exact x_ol_in x_ol_go)
theorem x_ol_bast  : x_ol (x_bast y pc L M S h) := by
  unfold x_bast
  repeat' split
  all_goals (first | exact x_ol_none | exact x_ol_go | exact x_ol_in x_ol_go)
theorem x_ol_jast  : x_ol (x_jast y pc L M S h) := by
  unfold x_jast
  repeat' split
  all_goals (first | exact x_ol_none | exact x_ol_go | exact x_ol_in x_ol_go)
theorem x_ol_aast  : x_ol (x_aast y pc L M S h) := by
  unfold x_aast
  repeat' split
  all_goals (first | exact x_ol_none | exact x_ol_go | exact x_ol_in x_ol_go)
theorem x_ol_alen {xl : Nat} : x_ol (x_alen xl y pc L M S h) := by
  unfold x_alen
  repeat' split
  all_goals (first | exact x_ol_none | exact x_ol_go | exact x_ol_in x_ol_go)
theorem x_ol_new {a : Nat} : x_ol (x_new y pc L M S h a) := by
  unfold x_new
  repeat' split
  all_goals (first | exact x_ol_none | exact x_ol_go | exact x_ol_in x_ol_go)
theorem x_ol_newa {a : Nat} : x_ol (x_newa y pc L M S h a) := by
  unfold x_newa
  repeat' split
  all_goals (first | exact x_ol_none | exact x_ol_go | exact x_ol_in x_ol_go)
theorem x_ol_newq  : x_ol (x_newq y pc L M S h) := by
  unfold x_newq
  repeat' split
  all_goals (first | exact x_ol_none | exact x_ol_go | exact x_ol_in x_ol_go)
theorem x_ol_copy  : x_ol (x_copy y pc L M S h) := by
  unfold x_copy
  repeat' split
  all_goals (first | exact x_ol_none | exact x_ol_go | exact x_ol_in x_ol_go)
theorem x_ol_obi  : x_ol (x_obi y pc L M S h) := by
  unfold x_obi
  repeat' split
  all_goals (first | exact x_ol_none | exact x_ol_go | exact x_ol_in x_ol_go)
theorem x_ol_mth {fn : Int32 → Int32 → Int32} : x_ol (x_mth y pc L M S h fn) := by
  unfold x_mth
  repeat' split
  all_goals (first | exact x_ol_none | exact x_ol_go | exact x_ol_in x_ol_go)
theorem x_ol_mab  : x_ol (x_mab y pc L M S h) := by
  unfold x_mab
  repeat' split
  all_goals (first | exact x_ol_none | exact x_ol_go | exact x_ol_in x_ol_go)
theorem x_ol_br {c : ClassFile.Cond} {u v : Int32} {A B : Option x_O} (hA : x_ol A) (hB : x_ol B) : x_ol (x_br c u v A B) := by
  unfold x_br
  repeat' split
  all_goals (first | exact hA | exact hB)
set_option maxHeartbeats 4000000 in
theorem x_op_cases {xs : Nat → Int32} {xl : Nat} {ins : Instr} {len a k p q : Nat} {z : x_O} (hz : x_op xs xl y pc L M S h (ins, len, a, k, p, q) = some z) : (∃ (f' : x_F) (h' : x_H), z = .inl (f', h')) ∨
    (∃ idx, ins = .invokespecial idx ∧ a ≠ 9999 ∧ x_callv y pc L M S h a k = some z) ∨ (∃ idx, ins = .invokevirtual idx ∧ x_calld y pc L M S h a k q = some z) ∨
    (∃ idx, ins = .invokestatic idx ∧ a ≠ 9998 ∧ a ≠ 286 ∧ a ≠ 287 ∧ a ≠ 288 ∧ x_call y pc L M S h a k = some z) ∨ (ins = .ireturn ∧ x_iret y S h = some z) ∨ (ins = .lreturn ∧ x_jret S h = some z) ∨ (ins = .return_ ∧ x_vret S h = some z) := by
  cases ins
  case invokespecial idx =>
    unfold x_op at hz
    dsimp only at hz
    split at hz
    · exact Or.inl (x_ol_obi z hz)
    · rename_i hn
      exact Or.inr (Or.inl ⟨idx, rfl, hn, hz⟩)
  case invokevirtual idx => exact Or.inr (Or.inr (Or.inl ⟨idx, rfl, hz⟩))
  case invokestatic idx =>
    unfold x_op at hz
    dsimp only at hz
    split at hz
    · exact Or.inl (x_ol_copy z hz)
    · split at hz
      · exact Or.inl (x_ol_mab z hz)
      · cases hz
    · split at hz
      · exact Or.inl (x_ol_mth z hz)
      · cases hz
    · split at hz
      · exact Or.inl (x_ol_mth z hz)
      · cases hz
    · rename_i n1 n2 n3 n4
      exact Or.inr (Or.inr (Or.inr (Or.inl ⟨idx, rfl, n1, n2, n3, n4, hz⟩)))
  case ireturn => exact Or.inr (Or.inr (Or.inr (Or.inr (Or.inl ⟨rfl, hz⟩))))
  case lreturn => exact Or.inr (Or.inr (Or.inr (Or.inr (Or.inr (Or.inl ⟨rfl, hz⟩)))))
  case return_ => exact Or.inr (Or.inr (Or.inr (Or.inr (Or.inr (Or.inr ⟨rfl, hz⟩)))))
  all_goals (refine Or.inl ((?_ : x_ol _) z hz))
  all_goals (first | exact x_ol_none | exact x_ol_go | (unfold x_op; dsimp only; (repeat' split); all_goals (first | exact x_ol_none | exact x_ol_go | exact x_ol_br x_ol_go x_ol_go | exact x_ol_psh | exact x_ol_jmp | exact x_ol_bin | exact x_ol_un | exact x_ol_lbin | exact x_ol_si | exact x_ol_sa | exact x_ol_sj | exact x_ol_inc | exact x_ol_gf | exact x_ol_pf | exact x_ol_iald | exact x_ol_bald | exact x_ol_jald | exact x_ol_aald | exact x_ol_iast | exact x_ol_bast | exact x_ol_jast | exact x_ol_aast | exact x_ol_alen | exact x_ol_new | exact x_ol_newa | exact x_ol_newq | exact x_ol_copy | exact x_ol_obi | exact x_ol_mth | exact x_ol_mab)))
end XOL
theorem x_pop_s : ∀ (n : Nat) (acc S : List Value) {As r : List Value}, x_pop n acc S = some (As, r) → ∃ B : List Value, B.length = n ∧ As = B.reverse ++ acc ∧ S = B ++ r
  | 0, acc, S, As, r, h => by
    cases h
    exact ⟨[], rfl, rfl, rfl⟩
  | n + 1, acc, [], As, r, h => by cases h
  | n + 1, acc, v :: S, As, r, h => by
    obtain ⟨B, h1, h2, h3⟩ := x_pop_s n (v :: acc) S h
    refine ⟨v :: B, by rw [List.length_cons, h1], ?_, by rw [h3]; rfl⟩
    rw [h2, List.reverse_cons, List.append_assoc]
    rfl
theorem x_pop0 {n : Nat} {S As r : List Value} (h : x_pop n [] S = some (As, r)) : As.length = n ∧ S = As.reverse ++ r := by
  obtain ⟨B, h1, h2, h3⟩ := x_pop_s n [] S h
  rw [List.append_nil] at h2
  subst h2
  rw [List.length_reverse, List.reverse_reverse]
  exact ⟨h1, h3⟩
/-! a method's contract -/
def x_Pc (base b xl sa sv : Nat) (xs : Nat → Int32) (fv : Value) (D : va_G) (dA : Nat → ClassId) (h : x_H) (As : List Value) : Array Value → State → Prop :=
  va_Pc (As.map (x_tr base b sa sv fv)) (fun U => x_G base b xl sa sv xs fv D dA U U.heap ∧ va_P D x_cl (x_ws base dA h) U.heap ∧ h.1.length ≤ 100000 ∧ U.heap.size ≤ base + h.1.length ∧ base ≤ U.heap.size ∧ ∀ i k j, h.2.2.2 i k = some j → j < 100000)
def x_Qc (base b sa sv : Nat) (fv : Value) (D : va_G) (dA : Nat → ClassId) (v : Option Value) (h2 : x_H) : Array Value → State → Outcome → State → Prop := fun _ st oc t =>
  oc = .returned (v.map (x_tr base b sa sv fv)) ∧ va_P D x_cl (x_ws base dA h2) t.heap ∧ h2.1.length ≤ 100000 ∧ (∀ i k j, h2.2.2.2 i k = some j → j < 100000) ∧ va_F (fun q => base ≤ q) st t
def x_rm (zz : x_M) (h h2 : x_H) : Room := { frames := zz.2.2.2.2.2.2.1, cells := h2.1.length - h.1.length, slots := x_wt h2.1 - x_wt h.1, locals := zz.2.2.2.2.2.2.2.1 }
abbrev x_wd (zz : x_M) : List Cond := Cond.code zz.1 zz.2.1 zz.2.2.1 zz.2.2.2.1 :: lw_g
def x_MetS (l : Launch) (base b xl sa sv : Nat) (xs : Nat → Int32) (fv : Value) (D : va_G) (dA : Nat → ClassId) (z : Nat) (As : List Value) (h : x_H) (v : Option Value) (h2 : x_H) : Prop :=
  ∀ zz, x_m z = some zz → Met l zz.1 (x_wd zz) (x_rm zz h h2) (x_Pc base b xl sa sv xs fv D dA h As) (x_Qc base b sa sv fv D dA v h2) (h2.1.length - h.1.length) (x_wt h2.1 - x_wt h.1) (fun q => base ≤ q)
theorem x_blind {base b xl sa sv : Nat} {xs : Nat → Int32} {fv : Value} {D : va_G} {dA : Nat → ClassId} {h : x_H} {As : List Value} : FrameBlind (x_Pc base b xl sa sv xs fv D dA h As) := by
  intro a U g mk q
  obtain ⟨q1, q2, q3⟩ := q
  exact ⟨q1, x_G.same (U := U) (V := U.calling g mk a) rfl q2, q3⟩
theorem x_goodIn {ws : List Cond} (hm : ∀ w ∈ ws, w ∈ lw_g) : GoodIn lw_g ws := fun w hw => ⟨hm w hw, good_of_word (List.mem_filter.mp (hm w hw)).2⟩
theorem x_wd_in {zz : x_M} (hc : Cond.code zz.1 zz.2.1 zz.2.2.1 zz.2.2.2.1 ∈ lw_g) : ∀ w ∈ x_wd zz, w ∈ lw_g := by
  intro w hw
  rcases List.mem_cons.mp hw with rfl | hw
  · exact hc
  · exact hw
section XSIM
variable {p : Program} {l : Launch} {e : Env} {R : Room} {s : State} {m : MethodId} {args : Array Value} {below : List Frame} {meth : Method} {c : Code} {Q : State → Prop}
variable {base b xl sa sv : Nat} {xs : Nat → Int32} {fv : Value} {D : va_G} {dA : Nat → ClassId} {n0 w0 nL : Nat} {mm : x_M}
variable {y pc : Nat} {L : x_L} {M : x_J} {S : List Value} {h h' : x_H} {f' : x_F}
/-- behind a call -/
theorem x_kcall {r : List Value} {v1 : Option Value} {h3 : x_H} {a : Array Value} (C : x_Cx p R s m args meth c base b xl sa sv xs fv D dA n0 nL mm) (hm : h.1.length ≤ h3.1.length ∧ x_wt h.1 ≤ x_wt h3.1)
    (hrun : ∀ (H : Heap) (locs : List Loc) (ls : Array Slot) (cells slots : Nat), x_Rel s base b sa sv fv D dA n0 w0 nL (y, pc, L, M, S) h H locs ls cells slots → H.size ≤ s.heap.size + cells →
      va_Run p l e R s m args below meth c H locs cells slots (h3.1.length - h.1.length) (x_wt h3.1 - x_wt h.1) (F0 m pc ls (S.map (x_tr base b sa sv fv))) (r.map (x_tr base b sa sv fv)) (x_Qc base b sa sv fv D dA v1 h3 a) (fun q => base ≤ q))
    (kk : x_Kp p l e R s m args below meth c Q base b sa sv fv D dA n0 w0 nL (x_ps v1 (y, pc + 3, L, M, r)) h3) : x_Kp p l e R s m args below meth c Q base b sa sv fv D dA n0 w0 nL (y, pc, L, M, S) h := by
  intro H locs ls cells slots hR
  refine x_size (fun hsz => ?_)
  intro T hT X
  obtain ⟨v, st₀, t, T', Lc, h0, X', hL, e1, e2, hq, st⟩ := hrun H locs ls cells slots hR hsz T hT X
  obtain ⟨hv, hP3, hN3, hval3, hF1, hF2⟩ := hq
  cases hv
  obtain ⟨hP, hN, hS0, hl4, h5, h6, hvv⟩ := hR
  rw [h0] at hF1 hF2
  have hS1 : va_S (fun q => base ≤ q) s.heap T'.heap (locs ++ Lc) := by
    refine ⟨Nat.le_trans hS0.1 (by rw [e1]; exact hF1), fun q q1 q2 => ?_, fun q hq => ?_⟩
    · rw [e1, hF2 q (Nat.lt_of_lt_of_le q1 hS0.1) q2]
      exact hS0.2.1 q q1 q2
    · rcases List.mem_append.mp hq with z | z
      · exact hS0.2.2 q z
      · exact hL q z
  obtain ⟨t2, a1, b1⟩ := kk T'.heap (locs ++ Lc) ls (cells + (h3.1.length - h.1.length)) (slots + (x_wt h3.1 - x_wt h.1)) ⟨by rw [e1]; exact hP3, hN3, hS1, hl4, by omega, by omega, hval3⟩ T' rfl X'
  refine ⟨t2, st t2 ?_, b1⟩
  cases v1 with
  | none => exact a1
  | some w => exact a1
/-- what a callee begins with -/
theorem x_pre (C : x_Cx p R s m args meth c base b xl sa sv xs fv D dA n0 nL mm) {H : Heap} {locs : List Loc} {ls : Array Slot} {cells slots : Nat} {f : x_F} (hR : x_Rel s base b sa sv fv D dA n0 w0 nL f h H locs ls cells slots) (hsz : H.size ≤ s.heap.size + cells) (As : List Value) :
    ∀ U : State, U.heap = H → s.WarmedH U.vm → x_Pc base b xl sa sv xs fv D dA h As (As.map (x_tr base b sa sv fv)).toArray U := by
  intro U hU hW
  obtain ⟨-, -, -, -, -, -, hG, -, -, hz1, hz2⟩ := C
  obtain ⟨hP, hN, hS0, hl4, h5, h6, hvv⟩ := hR
  refine ⟨rfl, ?_, by rw [hU]; exact hP, hN, by rw [hU]; omega, by rw [hU]; exact Nat.le_trans hz2 hS0.1, hvv⟩
  rw [hU]
  exact (hG.kept hS0.2.1).warm hW
theorem x_krunV (C : x_Cx p R s m args meth c base b xl sa sv xs fv D dA n0 nL mm) {z zn q idx pl len : Nat} {zz : x_M} {As : List Value} {h3 : x_H} {v1 : Option Value} {f1 : x_F} {h1 : x_H} (hz : x_m z = some zz) (hd : decode mm.2.1 pc = .ok (.invokevirtual idx, 3)) (ok : x_okz mm (.invokevirtual idx, len, z, zn, pl, q) = true) (oM : x_okM z = true)
    (hst : x_calld y pc L M S h z zn q = some (.inr (.inr ((z, As), f1, h1)))) (hB : h3.1.length ≤ n0 + R.cells ∧ x_wt h3.1 ≤ w0 + R.slots) (hm : h.1.length ≤ h3.1.length ∧ x_wt h.1 ≤ x_wt h3.1) (hM : x_MetS l base b xl sa sv xs fv D dA z As h v1 h3) (kk : x_Kp p l e R s m args below meth c Q base b sa sv fv D dA n0 w0 nL (x_ps v1 f1) h3) : x_Kp p l e R s m args below meth c Q base b sa sv fv D dA n0 w0 nL (y, pc, L, M, S) h := by
  have hMz := hM zz hz
  obtain ⟨hx, hb, hml, hown, hts, -, hG, hfr, hlo, hz1, hz2⟩ := id C
  have hf := hG.2.2.2.2.2.2.2.2.2.2.1
  unfold x_okz x_okc at ok
  dsimp only at ok
  rw [hz] at ok
  dsimp only at ok
  simp only [Bool.and_eq_true, decide_eq_true_eq] at ok
  obtain ⟨⟨⟨⟨⟨⟨-, o1⟩, o2⟩, o3⟩, o4⟩, o5⟩, o6⟩ := ok
  unfold x_okM at oM
  rw [hz] at oM
  simp only [Bool.and_eq_true, decide_eq_true_eq] at oM
  obtain ⟨⟨⟨⟨m1, m2⟩, m3⟩, -⟩, m5⟩ := oM
  rw [o1] at m5
  simp only [Bool.and_eq_true] at m5
  unfold x_calld at hst
  split at hst
  · rename_i As0 o r hpop
    split at hst
    · rename_i hrc
      split at hst
      · rename_i hcat
        cases hst
        obtain ⟨hlA, hS⟩ := x_pop0 hpop
        refine x_kcall (a := #[]) (r := r) C hm (fun H locs ls cells slots hR hsz => ?_) kk
        have hrecv : ∃ bo : Nat, x_tr base b sa sv fv (.ref o) = .ref bo ∧ ∃ cell : Cell, H[bo]? = some cell ∧ cell.vm.isStatics = false ∧ s.vm.findClass zz.1.cls = some cell.cls := by
          split at hrc
          · have ho : o = x_ST := of_decide_eq_true hrc
            subst ho
            simp only [decide_eq_true_eq] at o6
            rw [o6]
            obtain ⟨cell, g1, g2, g3, -⟩ := hG.2.2.2.2.1.kept hR.2.2.1.2.1
            exact ⟨sa, rfl, cell, g1, g2, g3⟩
          · rename_i hn9
            split at o6
            · exact absurd rfl hn9
            · simp only [Bool.and_eq_true, decide_eq_true_eq] at o6
              have hat := x_ob_s hrc
              refine ⟨base + o, x_tr_lt (x_lt_of hat hR.2.1), ?_⟩
              rw [o6.2]
              exact va_recv hG.1 hR.1 (x_cl_get _ o6.1) (x_ws_get hat)
        obtain ⟨bo, hbo, hcell⟩ := hrecv
        have hrun := va_runV (e := e) (below := below) (meth := meth) (C := zz.1.cls) (As := As0.map (x_tr base b sa sv fv)) (rest := r.map (x_tr base b sa sv fv)) (b := bo) (H := H) (locs := locs) (cells := cells) (slots := slots) (g := F0 m pc ls (S.map (x_tr base b sa sv fv))) ⟨hx, hb, hml, hown, hts⟩ hMz
          (cwV zn hts (x_goodIn (fun w hw => by
            unfold wsV at hw
            rcases List.mem_append.mp hw with hw | hw
            · simp only [List.mem_cons, List.not_mem_nil, or_false] at hw
              rcases hw with rfl | rfl | rfl | rfl
              · exact x_tg_s o5 rfl
              · exact x_tg_s m5.1 rfl
              · exact x_tg_s m5.2 rfl
              · exact x_tg_s m2 rfl
            · exact x_wd_in (x_tg_s m1 rfl) w hw)) rfl rfl rfl ⟨rfl, m3.1, m3.2.1, by rw [← o2]; exact m3.2.2⟩ ⟨Nat.le_trans o3 hfr, Nat.le_trans o4 hlo⟩)
          ⟨x_blind, hcell, fun U hU hW => by
            have q := x_pre C hR hsz (.ref o :: As0) U hU hW
            rw [List.map_cons, hbo] at q
            exact q⟩ rfl (by rw [List.length_map]; exact hlA) hR.2.2.2.1.1.1 (by
              show S.map _ = _
              rw [hS, List.map_append, List.map_reverse, List.map_cons, hbo]) (by
              rw [x_cat_tr hf]
              show 2 * 0 + _ ≤ 8
              omega) hd ⟨by
                have := hR.2.2.2.2.1
                show cells + (h3.1.length - h.1.length) ≤ R.cells
                omega, by
                have := hR.2.2.2.2.2.1
                show slots + (x_wt h3.1 - x_wt h.1) ≤ R.slots
                omega⟩
        exact hrun
      · cases hst
    · cases hst
  · cases hst
end XSIM
