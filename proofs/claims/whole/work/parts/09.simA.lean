/-! a step of the abstract machine is a step of the real one -/
def x_Rel (s : State) (base b sa sv : Nat) (fv : Value) (D : va_G) (dA : Nat → ClassId) (n0 w0 nL : Nat) (f : x_F) (h : x_H) (H : Heap) (locs : List Loc) (ls : Array Slot) (cells slots : Nat) : Prop :=
  va_P D x_cl (x_ws base dA h) H ∧ h.1.length ≤ 100000 ∧ va_S (fun q => base ≤ q) s.heap H locs ∧ x_LR (x_tr base b sa sv fv) nL ls f.2.2.1 f.2.2.2.1 ∧ n0 + cells = h.1.length ∧ w0 + slots = x_wt h.1 ∧ ∀ i k j, h.2.2.2 i k = some j → j < 100000
def x_Kp (p : Program) (l : Launch) (e : Env) (R : Room) (s : State) (m : MethodId) (args : Array Value) (below : List Frame) (meth : Method) (c : Code) (Q : State → Prop) (base b sa sv : Nat) (fv : Value) (D : va_G) (dA : Nat → ClassId) (n0 w0 nL : Nat) (f : x_F) (h : x_H) : Prop :=
  ∀ (H : Heap) (locs : List Loc) (ls : Array Slot) (cells slots : Nat), x_Rel s base b sa sv fv D dA n0 w0 nL f h H locs ls cells slots → W p l e R s m args below meth c H locs cells slots Q (F0 m f.2.1 ls (f.2.2.2.2.map (x_tr base b sa sv fv)))
def x_Cx (p : Program) (R : Room) (s : State) (m : MethodId) (args : Array Value) (meth : Method) (c : Code) (base b xl sa sv : Nat) (xs : Nat → Int32) (fv : Value) (D : va_G) (dA : Nat → ClassId) (n0 nL : Nat) (mm : x_M) : Prop :=
  p.tables.exec = Jvm.exec ∧ c.code = mm.2.1 ∧ c.maxLocals = nL ∧ s.vm.findClass mm.1.cls = some m.cls ∧ (∀ w ∈ lw_g, w.before args s = true) ∧ meth.name = mm.1.name ∧ x_G base b xl sa sv xs fv D dA s s.heap ∧ mm.2.2.2.2.2.2.1 ≤ R.frames ∧ mm.2.2.2.2.2.2.2.1 ≤ R.locals ∧ s.heap.size ≤ base + n0 ∧ base ≤ s.heap.size
section XSIM
variable {p : Program} {l : Launch} {e : Env} {R : Room} {s : State} {m : MethodId} {args : Array Value} {below : List Frame} {meth : Method} {c : Code} {Q : State → Prop}
variable {base b xl sa sv : Nat} {xs : Nat → Int32} {fv : Value} {D : va_G} {dA : Nat → ClassId} {n0 w0 nL : Nat} {mm : x_M}
variable {y pc : Nat} {L : x_L} {M : x_J} {S : List Value} {h h' : x_H} {f' : x_F}
theorem x_size {H : Heap} {locs : List Loc} {cells slots : Nat} {g : JFrame} (k : H.size ≤ s.heap.size + cells → W p l e R s m args below meth c H locs cells slots Q g) : W p l e R s m args below meth c H locs cells slots Q g := by
  intro T hT X
  refine k ?_ T hT X
  have h1 := X.same.2.2.1
  rw [← hT]
  exact h1
theorem x_go_inj {pc' : Nat} {L' : x_L} {M' : x_J} {S' : List Value} {h0 : x_H} (hg : x_go y pc' L' M' S' h0 = some (.inl (f', h'))) : f' = (y, pc', L', M', S') ∧ h0 = h' := by
  unfold x_go at hg
  cases hg
  exact ⟨rfl, rfl⟩
/-- nothing but the stack and the place changes -/
theorem x_kgo {pc' : Nat} {S' : List Value} (row : ∀ (H : Heap) (locs : List Loc) (ls : Array Slot) (cells slots : Nat), x_LR (x_tr base b sa sv fv) nL ls L M → W p l e R s m args below meth c H locs cells slots Q (F0 m pc' ls (S'.map (x_tr base b sa sv fv))) → W p l e R s m args below meth c H locs cells slots Q (F0 m pc ls (S.map (x_tr base b sa sv fv))))
    (hst : x_go y pc' L M S' h = some (.inl (f', h'))) (kk : x_Kp p l e R s m args below meth c Q base b sa sv fv D dA n0 w0 nL f' h') : x_Kp p l e R s m args below meth c Q base b sa sv fv D dA n0 w0 nL (y, pc, L, M, S) h := by
  obtain ⟨rfl, rfl⟩ := x_go_inj hst
  intro H locs ls cells slots hR
  exact row H locs ls cells slots hR.2.2.2.1 (kk H locs ls cells slots hR)
theorem x_kpsh {pc' : Nat} {o : Option Value} (row : ∀ v, o = some v → ∀ (H : Heap) (locs : List Loc) (ls : Array Slot) (cells slots : Nat) (r : List Value), x_LR (x_tr base b sa sv fv) nL ls L M → W p l e R s m args below meth c H locs cells slots Q (F0 m pc' ls (x_tr base b sa sv fv v :: r)) → W p l e R s m args below meth c H locs cells slots Q (F0 m pc ls r))
    (hst : x_psh y pc' L M S h o = some (.inl (f', h'))) (kk : x_Kp p l e R s m args below meth c Q base b sa sv fv D dA n0 w0 nL f' h') : x_Kp p l e R s m args below meth c Q base b sa sv fv D dA n0 w0 nL (y, pc, L, M, S) h := by
  cases o with
  | none => cases hst
  | some v => exact x_kgo (S' := v :: S) (fun H locs ls cells slots hl k => row v rfl H locs ls cells slots _ hl k) hst kk
theorem x_kjmp {S' : List Value} {o : Option Nat} (row : ∀ t, o = some t → ∀ (H : Heap) (locs : List Loc) (ls : Array Slot) (cells slots : Nat), W p l e R s m args below meth c H locs cells slots Q (F0 m t ls (S'.map (x_tr base b sa sv fv))) → W p l e R s m args below meth c H locs cells slots Q (F0 m pc ls (S.map (x_tr base b sa sv fv))))
    (hst : x_jmp y L M S' h o = some (.inl (f', h'))) (kk : x_Kp p l e R s m args below meth c Q base b sa sv fv D dA n0 w0 nL f' h') : x_Kp p l e R s m args below meth c Q base b sa sv fv D dA n0 w0 nL (y, pc, L, M, S) h := by
  cases o with
  | none => cases hst
  | some t => exact x_kgo (S' := S') (fun H locs ls cells slots hl k => row t rfl H locs ls cells slots k) hst kk
theorem x_kbin {fn : Int32 → Int32 → Option Int32} (row : ∀ u v w, fn u v = some w → ∀ (H : Heap) (locs : List Loc) (ls : Array Slot) (cells slots : Nat) (r : List Value), W p l e R s m args below meth c H locs cells slots Q (F0 m (pc + 1) ls (.int w :: r)) → W p l e R s m args below meth c H locs cells slots Q (F0 m pc ls (.int v :: .int u :: r)))
    (hst : x_bin y pc L M S h fn = some (.inl (f', h'))) (kk : x_Kp p l e R s m args below meth c Q base b sa sv fv D dA n0 w0 nL f' h') : x_Kp p l e R s m args below meth c Q base b sa sv fv D dA n0 w0 nL (y, pc, L, M, S) h := by
  unfold x_bin at hst
  cases hS : x_ii S with
  | none => rw [hS] at hst; cases hst
  | some q =>
    obtain ⟨u, v, r⟩ := q
    rw [hS] at hst
    have e := x_ii_s hS
    subst e
    simp only at hst
    cases hf : fn u v with
    | none => rw [hf] at hst; cases hst
    | some w =>
      rw [hf] at hst
      exact x_kgo (S' := .int w :: r) (fun H locs ls cells slots hl k => row u v w hf H locs ls cells slots _ k) hst kk
theorem x_kun {fn : Int32 → Value} (row : ∀ u, ∀ (H : Heap) (locs : List Loc) (ls : Array Slot) (cells slots : Nat) (r : List Value), W p l e R s m args below meth c H locs cells slots Q (F0 m (pc + 1) ls (x_tr base b sa sv fv (fn u) :: r)) → W p l e R s m args below meth c H locs cells slots Q (F0 m pc ls (.int u :: r)))
    (hst : x_un y pc L M S h fn = some (.inl (f', h'))) (kk : x_Kp p l e R s m args below meth c Q base b sa sv fv D dA n0 w0 nL f' h') : x_Kp p l e R s m args below meth c Q base b sa sv fv D dA n0 w0 nL (y, pc, L, M, S) h := by
  unfold x_un at hst
  cases hS : x_i1 S with
  | none => rw [hS] at hst; cases hst
  | some q =>
    obtain ⟨u, r⟩ := q
    rw [hS] at hst
    have e := x_i1_s hS
    subst e
    exact x_kgo (S' := fn u :: r) (fun H locs ls cells slots hl k => row u H locs ls cells slots _ k) hst kk
theorem x_klbin {fn : Int64 → Int64 → Value} (row : ∀ u v, ∀ (H : Heap) (locs : List Loc) (ls : Array Slot) (cells slots : Nat) (r : List Value), W p l e R s m args below meth c H locs cells slots Q (F0 m (pc + 1) ls (x_tr base b sa sv fv (fn u v) :: r)) → W p l e R s m args below meth c H locs cells slots Q (F0 m pc ls (.long v :: .long u :: r)))
    (hst : x_lbin y pc L M S h fn = some (.inl (f', h'))) (kk : x_Kp p l e R s m args below meth c Q base b sa sv fv D dA n0 w0 nL f' h') : x_Kp p l e R s m args below meth c Q base b sa sv fv D dA n0 w0 nL (y, pc, L, M, S) h := by
  unfold x_lbin at hst
  cases hS : x_ll S with
  | none => rw [hS] at hst; cases hst
  | some q =>
    obtain ⟨u, v, r⟩ := q
    rw [hS] at hst
    have e := x_ll_s hS
    subst e
    exact x_kgo (S' := fn u v :: r) (fun H locs ls cells slots hl k => row u v H locs ls cells slots _ k) hst kk
theorem x_ksi {pc' i : Nat} (row : ∀ (u : Int32) (H : Heap) (locs : List Loc) (ls : Array Slot) (cells slots : Nat) (r : List Value), i < nL → lv_has ls nL (x_lv (x_tr base b sa sv fv) L M) → (∀ ls' : Array Slot, lv_has ls' nL ((i, Value.int u) :: (x_lv (x_tr base b sa sv fv) L M).filter (fun q => !(q.1 == i) && !(q.1 + 1 == i && q.2.category == 2))) → W p l e R s m args below meth c H locs cells slots Q (F0 m pc' ls' r)) → W p l e R s m args below meth c H locs cells slots Q (F0 m pc ls (.int u :: r)))
    (hf : fv = .null ∨ ∃ t : Nat, fv = .ref t) (hst : x_si y pc' i L M S h = some (.inl (f', h'))) (kk : x_Kp p l e R s m args below meth c Q base b sa sv fv D dA n0 w0 nL f' h') : x_Kp p l e R s m args below meth c Q base b sa sv fv D dA n0 w0 nL (y, pc, L, M, S) h := by
  unfold x_si at hst
  cases hS : x_i1 S with
  | none => rw [hS] at hst; cases hst
  | some q =>
    obtain ⟨u, r⟩ := q
    rw [hS] at hst
    have e := x_i1_s hS
    subst e
    simp only at hst
    by_cases hi : i < L.length
    · rw [if_pos hi] at hst
      obtain ⟨rfl, rfl⟩ := x_go_inj hst
      intro H locs ls cells slots hR
      obtain ⟨h1, h2, h3, h4, h5⟩ := hR
      refine row u H locs ls cells slots _ (by rw [← h4.2]; exact hi) h4.1 (fun ls' hl' => ?_)
      exact kk H locs ls' cells slots ⟨h1, h2, h3, x_LR_s1 (v := .int u) h4.2 (x_tr_cat hf) hl' _ (x_set_len _ _ _) (fun j w => x_lg_s1), h5⟩
    · rw [if_neg hi] at hst
      cases hst
theorem x_ksa {pc' i : Nat} (row : ∀ (u : Nat) (H : Heap) (locs : List Loc) (ls : Array Slot) (cells slots : Nat) (r : List Value), i < nL → lv_has ls nL (x_lv (x_tr base b sa sv fv) L M) → (∀ ls' : Array Slot, lv_has ls' nL ((i, Value.ref u) :: (x_lv (x_tr base b sa sv fv) L M).filter (fun q => !(q.1 == i) && !(q.1 + 1 == i && q.2.category == 2))) → W p l e R s m args below meth c H locs cells slots Q (F0 m pc' ls' r)) → W p l e R s m args below meth c H locs cells slots Q (F0 m pc ls (.ref u :: r)))
    (hf : fv = .null ∨ ∃ t : Nat, fv = .ref t) (hst : x_sa y pc' i L M S h = some (.inl (f', h'))) (kk : x_Kp p l e R s m args below meth c Q base b sa sv fv D dA n0 w0 nL f' h') : x_Kp p l e R s m args below meth c Q base b sa sv fv D dA n0 w0 nL (y, pc, L, M, S) h := by
  unfold x_sa at hst
  cases hS : x_r1 S with
  | none => rw [hS] at hst; cases hst
  | some q =>
    obtain ⟨u, r⟩ := q
    rw [hS] at hst
    have e := x_r1_s hS
    subst e
    simp only at hst
    by_cases hi : i < L.length ∧ u < 100000
    · rw [if_pos hi] at hst
      obtain ⟨rfl, rfl⟩ := x_go_inj hst
      intro H locs ls cells slots hR
      obtain ⟨h1, h2, h3, h4, h5⟩ := hR
      show W p l e R s m args below meth c H locs cells slots Q (F0 m pc ls (x_tr base b sa sv fv (.ref u) :: r.map (x_tr base b sa sv fv)))
      have hl0 := h4.1
      rw [x_tr_lt hi.2]
      refine row (base + u) H locs ls cells slots _ (by rw [← h4.2]; exact hi.1) hl0 (fun ls' hl' => ?_)
      exact kk H locs ls' cells slots ⟨h1, h2, h3, x_LR_s1 (v := .ref u) h4.2 (x_tr_cat hf) (by rw [x_tr_lt hi.2]; exact hl') _ (x_set_len _ _ _) (fun j w => x_lg_s1), h5⟩
    · rw [if_neg hi] at hst
      cases hst
theorem x_ksj {pc' i : Nat} (row : ∀ (u : Int64) (H : Heap) (locs : List Loc) (ls : Array Slot) (cells slots : Nat) (r : List Value), i + 1 < nL → lv_has ls nL (x_lv (x_tr base b sa sv fv) L M) → (∀ ls' : Array Slot, lv_has ls' nL ((i, Value.long u) :: (x_lv (x_tr base b sa sv fv) L M).filter (fun q => !(q.1 == i) && (!(q.1 == i + 1) && !(q.1 + 1 == i && q.2.category == 2)))) → W p l e R s m args below meth c H locs cells slots Q (F0 m pc' ls' r)) → W p l e R s m args below meth c H locs cells slots Q (F0 m pc ls (.long u :: r)))
    (hf : fv = .null ∨ ∃ t : Nat, fv = .ref t) (hst : x_sj y pc' i L M S h = some (.inl (f', h'))) (kk : x_Kp p l e R s m args below meth c Q base b sa sv fv D dA n0 w0 nL f' h') : x_Kp p l e R s m args below meth c Q base b sa sv fv D dA n0 w0 nL (y, pc, L, M, S) h := by
  unfold x_sj at hst
  cases hS : x_l1 S with
  | none => rw [hS] at hst; cases hst
  | some q =>
    obtain ⟨u, r⟩ := q
    rw [hS] at hst
    have e := x_l1_s hS
    subst e
    simp only at hst
    by_cases hi : i + 1 < L.length
    · rw [if_pos hi] at hst
      obtain ⟨rfl, rfl⟩ := x_go_inj hst
      intro H locs ls cells slots hR
      obtain ⟨h1, h2, h3, h4, h5⟩ := hR
      refine row u H locs ls cells slots _ (by rw [← h4.2]; exact hi) h4.1 (fun ls' hl' => ?_)
      exact kk H locs ls' cells slots ⟨h1, h2, h3, x_LR_s2 h4.2 (x_tr_cat hf) hl', h5⟩
    · rw [if_neg hi] at hst
      cases hst
end XSIM
