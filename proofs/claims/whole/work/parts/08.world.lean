def lw_g : List Cond := lw_tbl.filter goodWord
def x_nst (w : Cond) : Bool := match w with
  | .methodLinkNest _ _ _ _ => true
  | _ => false
/-! the world of an abstract heap: the cell i lies at base + i -/
def x_fv (base c i : Nat) (h : x_H) (k : Nat) : Value := match x_isr (x_ty c k) with
  | true => (match h.2.2.2 i k with
    | some j => .ref (base + j)
    | none => .null)
  | false => .int (h.2.1 i k)
def x_rb (base : Nat) (o : Option Nat) : Option Nat := o.map (fun j => base + j)
def x_ac (base : Nat) (h : x_H) (i t : Nat) : (Nat → Int32) ⊕ (Nat → Int64) ⊕ (Nat → UInt32) ⊕ (Nat → UInt64) ⊕ (Nat → Option Nat) := match t with
  | 3 => .inr (.inl (h.2.2.1 i))
  | 4 => .inr (.inr (.inr (.inr (fun k => x_rb base (h.2.2.2 i k)))))
  | _ => .inl (h.2.1 i)
def x_ct (base : Nat) (dA : Nat → ClassId) (h : x_H) (i : Nat) (k : x_K) : va_E := match k with
  | .inl c => .inr (c, (List.range (x_cn c).2.2).map (x_fv base c i h))
  | .inr (t, n) => .inl (dA t, n, x_ac base h i t)
def x_ws (base : Nat) (dA : Nat → ClassId) (h : x_H) : va_W := h.1.mapIdx (fun i k => (base + i, x_ct base dA h i k))
def x_wt1 (k : x_K) : Nat := match k with
  | .inl c => (x_cn c).2.2
  | .inr q => q.2
def x_wt (l : List x_K) : Nat := (l.map x_wt1).sum
abbrev x_tys (dA : Nat → ClassId) : List (ClassId × FieldType) := [(dA 0, .int), (dA 1, .byte), (dA 2, .boolean), (dA 3, .long), (dA 4, .object "AgeHill$Folk")]
theorem x_ws_at (base : Nat) (dA : Nat → ClassId) (h : x_H) (i : Nat) : (x_ws base dA h)[i]? = (h.1[i]?).map (fun k => (base + i, x_ct base dA h i k)) := by
  unfold x_ws
  rw [List.getElem?_mapIdx]
theorem x_ws_get {base : Nat} {dA : Nat → ClassId} {h : x_H} {i : Nat} {k : x_K} (hk : h.1[i]? = some k) : (x_ws base dA h)[i]? = some (base + i, x_ct base dA h i k) := by
  rw [x_ws_at, hk]; rfl
theorem x_ws_D (base : Nat) (dA : Nat → ClassId) (h : x_H) : va_D (fun q => base ≤ q) (x_ws base dA h) := by
  have key : ∀ (i : Nat) (q : Nat × va_E), (x_ws base dA h)[i]? = some q → q.1 = base + i := by
    intro i q hq
    rw [x_ws_at] at hq
    cases hk : h.1[i]? with
    | none => rw [hk] at hq; cases hq
    | some k => rw [hk] at hq; cases hq; rfl
  refine ⟨fun i j p q hi hj e => ?_, fun k q hk => ?_⟩
  · have h1 := key i p hi
    have h2 := key j q hj
    omega
  · show base ≤ q.1
    rw [key k q hk]
    omega
theorem x_ct_congr {base : Nat} {dA : Nat → ClassId} {h h' : x_H} {i : Nat} {k : x_K} (h1 : h'.2.1 i = h.2.1 i) (h2 : h'.2.2.1 i = h.2.2.1 i) (h3 : h'.2.2.2 i = h.2.2.2 i) : x_ct base dA h' i k = x_ct base dA h i k := by
  cases k with
  | inl c =>
    unfold x_ct
    have e : x_fv base c i h' = x_fv base c i h := by
      funext k
      unfold x_fv
      rw [h1, h3]
    simp only [e]
  | inr q =>
    obtain ⟨t, n⟩ := q
    unfold x_ct x_ac
    rw [h1, h2, h3]
theorem x_ws_set {base : Nat} {dA : Nat → ClassId} {h h' : x_H} {a : Nat} {k : x_K} (hk : h'.1 = h.1) (ha : h.1[a]? = some k) (ho : ∀ i, i ≠ a → h'.2.1 i = h.2.1 i ∧ h'.2.2.1 i = h.2.2.1 i ∧ h'.2.2.2 i = h.2.2.2 i) :
    x_ws base dA h' = (x_ws base dA h).set a (base + a, x_ct base dA h' a k) := by
  apply List.ext_getElem?
  intro i
  have hl : a < (x_ws base dA h).length := by
    unfold x_ws
    rw [List.length_mapIdx]
    exact (List.getElem?_eq_some_iff.mp ha).1
  by_cases hi : i = a
  · subst hi
    rw [List.getElem?_set_self hl, x_ws_at, hk, ha]
    rfl
  · rw [List.getElem?_set_ne (Ne.symm hi), x_ws_at, x_ws_at, hk]
    obtain ⟨e1, e2, e3⟩ := ho i hi
    cases h.1[i]? with
    | none => rfl
    | some q => simp only [Option.map_some, x_ct_congr e1 e2 e3]
theorem x_ws_push {base : Nat} {dA : Nat → ClassId} {h h' : x_H} {k : x_K} (hk : h'.1 = h.1 ++ [k]) (ho : ∀ i, i < h.1.length → h'.2.1 i = h.2.1 i ∧ h'.2.2.1 i = h.2.2.1 i ∧ h'.2.2.2 i = h.2.2.2 i) :
    x_ws base dA h' = x_ws base dA h ++ [(base + h.1.length, x_ct base dA h' h.1.length k)] := by
  have hlen : (x_ws base dA h).length = h.1.length := by unfold x_ws; rw [List.length_mapIdx]
  apply List.ext_getElem?
  intro i
  rw [x_ws_at, hk]
  by_cases hi : i < h.1.length
  · rw [List.getElem?_append_left hi, List.getElem?_append_left (by rw [hlen]; exact hi), x_ws_at]
    obtain ⟨e1, e2, e3⟩ := ho i hi
    cases h.1[i]? with
    | none => rfl
    | some q => simp only [Option.map_some, x_ct_congr e1 e2 e3]
  · rw [List.getElem?_append_right (by omega), List.getElem?_append_right (by omega), hlen]
    by_cases he : i = h.1.length
    · subst he
      simp
    · have hz : ∃ n, i - h.1.length = n + 1 := ⟨i - h.1.length - 1, by omega⟩
      obtain ⟨n, hn⟩ := hz
      rw [hn]
      simp
theorem x_wt_push (l : List x_K) (k : x_K) : x_wt (l ++ [k]) = x_wt l + x_wt1 k := by simp [x_wt]
/-- what stands outside the world: the script, the String, two statics -/
def x_tr (base b sa sv : Nat) (fv : Value) : Value → Value
  | .ref j => if j < 100000 then .ref (base + j) else if j = 100000 then .ref b else if j = 100001 then .ref sa else if j = 100002 then .ref sv else fv
  | v => v
def x_G (base b xl sa sv : Nat) (xs : Nat → Int32) (fv : Value) (D : va_G) (dA : Nat → ClassId) (U : State) (H : Heap) : Prop :=
  va_K D x_cl (x_tys dA) U ∧ va_X b xl xs U H ∧ b < base ∧ vk_R "AgeHill$Reader" 97 x_tx sa U ∧ va_O "java/lang/String" sa (fun q => base ≤ q) U H ∧ va_OF "java/lang/String" "coder" "B" (.int 0) sa (fun q => base ≤ q) U H ∧
  va_OF "java/lang/String" "value" "[B" (.ref sv) sa (fun q => base ≤ q) U H ∧ va_T .byte sv x_wl (fun j => .int (x_wb.getD j 0)) (fun q => base ≤ q) U H ∧ va_Z "java/lang/String" "COMPACT_STRINGS" "Z" (.int 1) (fun q => base ≤ q) U H ∧
  va_Z "jdk/internal/util/Preconditions" "SIOOBE_FORMATTER" "Ljava/util/function/BiFunction;" fv (fun q => base ≤ q) U H ∧ (fv = .null ∨ ∃ t : Nat, fv = .ref t) ∧ va_AO "AgeHill$Folk" U ∧ ∀ w ∈ lw_tbl, x_nst w = true → va_Nw w U
theorem x_tr_cat {base b sa sv : Nat} {fv : Value} (hf : fv = .null ∨ ∃ t : Nat, fv = .ref t) (v : Value) : (x_tr base b sa sv fv v).category = v.category := by
  cases v with
  | ref j =>
    show (if _ then _ else _ : Value).category = 1
    rcases hf with rfl | ⟨t, rfl⟩ <;> (repeat' split) <;> rfl
  | _ => rfl
theorem x_cat_tr {base b sa sv : Nat} {fv : Value} (hf : fv = .null ∨ ∃ t : Nat, fv = .ref t) (S : List Value) : ((S.map (x_tr base b sa sv fv)).map fun v => v.category).sum = x_cat S := by
  induction S with
  | nil => rfl
  | cons v S ih =>
    simp only [List.map_cons, List.sum_cons, x_cat] at ih ⊢
    rw [ih, x_tr_cat hf]
theorem x_tr_lt {base b sa sv : Nat} {fv : Value} {j : Nat} (h : j < 100000) : x_tr base b sa sv fv (.ref j) = .ref (base + j) := by
  show (if _ then _ else _) = _
  rw [if_pos h]
theorem x_tr_rv {base b sa sv : Nat} {fv : Value} {o : Option Nat} (h : ∀ j, o = some j → j < 100000) : x_tr base b sa sv fv (x_rv o) = va_rf (x_rb base o) := by
  cases o with
  | none => rfl
  | some j => exact x_tr_lt (h j rfl)
/-- the variables of a frame, as the kit lists them -/
def x_lv (tr : Value → Value) (L : x_L) (M : x_J) : List (Nat × Value) :=
  (List.range L.length).filterMap (fun j => (x_lg L j).map (fun v => (j, tr v))) ++ (List.range M.length).filterMap (fun j => (x_jg M j).map (fun v => (j, Value.long v)))
def x_LR (tr : Value → Value) (nL : Nat) (ls : Array Slot) (L : x_L) (M : x_J) : Prop := lv_has ls nL (x_lv tr L M) ∧ L.length = nL
theorem x_lg_lt {L : x_L} {i : Nat} {v : Value} (h : x_lg L i = some v) : i < L.length := by
  unfold x_lg at h
  rw [x_at_eq] at h
  by_cases hi : i < L.length
  · exact hi
  · rw [List.getElem?_eq_none (Nat.not_lt.mp hi)] at h
    cases h
theorem x_jg_lt {M : x_J} {i : Nat} {v : Int64} (h : x_jg M i = some v) : i < M.length := by
  unfold x_jg at h
  rw [x_at_eq] at h
  by_cases hi : i < M.length
  · exact hi
  · rw [List.getElem?_eq_none (Nat.not_lt.mp hi)] at h
    cases h
theorem x_lv_mem {tr : Value → Value} {L : x_L} {M : x_J} {q : Nat × Value} : q ∈ x_lv tr L M ↔ (∃ v, x_lg L q.1 = some v ∧ q.2 = tr v) ∨ ∃ v, x_jg M q.1 = some v ∧ q.2 = .long v := by
  obtain ⟨i, w⟩ := q
  unfold x_lv
  rw [List.mem_append, List.mem_filterMap, List.mem_filterMap]
  constructor
  · rintro (⟨j, -, hj⟩ | ⟨j, -, hj⟩)
    · obtain ⟨v, hv, e⟩ := Option.map_eq_some_iff.mp hj
      cases e
      exact Or.inl ⟨v, hv, rfl⟩
    · obtain ⟨v, hv, e⟩ := Option.map_eq_some_iff.mp hj
      cases e
      exact Or.inr ⟨v, hv, rfl⟩
  · rintro (⟨v, hv, e⟩ | ⟨v, hv, e⟩)
    · exact Or.inl ⟨i, List.mem_range.mpr (x_lg_lt hv), by simp only at hv e; rw [hv, e]; rfl⟩
    · exact Or.inr ⟨i, List.mem_range.mpr (x_jg_lt hv), by simp only at hv e; rw [hv, e]; rfl⟩
theorem x_LR.at {tr : Value → Value} {nL : Nat} {ls : Array Slot} {L : x_L} {M : x_J} (h : x_LR tr nL ls L M) {i : Nat} {v : Value} (hv : x_lg L i = some v) : ls[i]? = some (.val (tr v)) :=
  h.1.2.2 (i, tr v) (x_lv_mem.mpr (Or.inl ⟨v, hv, rfl⟩))
theorem x_LR.atj {tr : Value → Value} {nL : Nat} {ls : Array Slot} {L : x_L} {M : x_J} (h : x_LR tr nL ls L M) {i : Nat} {v : Int64} (hv : x_jg M i = some v) : ls[i]? = some (.val (.long v)) :=
  h.1.2.2 (i, .long v) (x_lv_mem.mpr (Or.inr ⟨v, hv, rfl⟩))
theorem x_set_len {α : Type} (l : List α) (n : Nat) (b : α) : (x_set l n b).length = l.length := by rw [x_set_eq, List.length_set]
theorem x_at_set {α : Type} (l : List α) (n j : Nat) (b : α) : x_at (x_set l n b) j = if j = n then (x_at l j).map (fun _ => b) else x_at l j := by
  rw [x_at_eq, x_at_eq, x_set_eq, List.getElem?_set]
  by_cases h : j = n
  · subst h
    rw [if_pos rfl, if_pos rfl]
    by_cases hl : j < l.length
    · simp [hl]
    · simp [hl]
  · rw [if_neg (Ne.symm h), if_neg h]
theorem x_lg_cat {L : x_L} {i : Nat} {v : Value} (h : x_lg L i = some v) : v.category = 1 := by
  unfold x_lg at h
  split at h <;> cases h <;> rfl
theorem x_lg_s1 {L : x_L} {i j : Nat} {v w : Value} (h : x_lg (x_s1 L i v) j = some w) : (j = i ∧ w = v) ∨ (j ≠ i ∧ x_lg L j = some w) := by
  unfold x_lg x_s1 at h
  rw [x_at_set] at h
  by_cases hj : j = i
  · rw [if_pos hj] at h
    refine Or.inl ⟨hj, ?_⟩
    cases hx : x_at L j with
    | none => rw [hx] at h; cases h
    | some z =>
      rw [hx] at h
      simp only [Option.map_some] at h
      cases v <;> simp_all
  · rw [if_neg hj] at h
    exact Or.inr ⟨hj, h⟩
theorem x_jg_set {M : x_J} {i j : Nat} {o : Option Int64} {w : Int64} (h : x_jg (x_set M i o) j = some w) : (j = i ∧ o = some w) ∨ (j ≠ i ∧ x_jg M j = some w) := by
  unfold x_jg at h ⊢
  rw [x_at_set] at h
  by_cases hj : j = i
  · rw [if_pos hj] at h
    refine Or.inl ⟨hj, ?_⟩
    cases hx : x_at M j with
    | none => rw [hx] at h; cases h
    | some z =>
      rw [hx] at h
      simp only [Option.map_some] at h
      cases o <;> simp_all
  · rw [if_neg hj] at h
    exact Or.inr ⟨hj, h⟩
theorem x_lg_set0 {L : x_L} {i j : Nat} {w : Value} (h : x_lg (x_set L i none) j = some w) : j ≠ i ∧ x_lg L j = some w := by
  unfold x_lg at h ⊢
  rw [x_at_set] at h
  by_cases hj : j = i
  · rw [if_pos hj] at h
    cases hx : x_at L j with
    | none => rw [hx] at h; cases h
    | some z => rw [hx] at h; cases h
  · rw [if_neg hj] at h
    exact ⟨hj, h⟩
/-- a store of one slot -/
theorem x_LR_s1 {tr : Value → Value} {nL : Nat} {ls : Array Slot} {L : x_L} {M : x_J} {i : Nat} {v : Value} (hlen : L.length = nL) (htr : ∀ v : Value, (tr v).category = v.category)
    (h : lv_has ls nL ((i, tr v) :: (x_lv tr L M).filter (fun q => !(q.1 == i) && !(q.1 + 1 == i && q.2.category == 2)))) (L0 : x_L) (hL0 : L0.length = L.length) (hg : ∀ j w, x_lg L0 j = some w → (j = i ∧ w = v) ∨ (j ≠ i ∧ x_lg L j = some w)) : x_LR tr nL ls L0 (x_m1 M i) := by
  refine ⟨⟨h.1, h.2.1, fun q hq => h.2.2 q ?_⟩, hL0.trans hlen⟩
  rw [x_lv_mem] at hq
  rcases hq with ⟨w, hw, e⟩ | ⟨w, hw, e⟩
  · rcases hg _ _ hw with ⟨h1, h2⟩ | ⟨h1, h2⟩
    · obtain ⟨a, b⟩ := q
      simp only at h1 e
      rw [h1, e, h2]
      exact List.mem_cons_self
    · refine List.mem_cons_of_mem _ (List.mem_filter.mpr ⟨x_lv_mem.mpr (Or.inl ⟨w, h2, e⟩), ?_⟩)
      have hc : q.2.category = 1 := by rw [e, htr]; exact x_lg_cat h2
      simp [h1, hc]
  · unfold x_m1 at hw
    rcases x_jg_set hw with ⟨-, h2⟩ | ⟨h1, h2⟩
    · cases h2
    · rcases x_jg_set h2 with ⟨-, h4⟩ | ⟨h3, h4⟩
      · cases h4
      · refine List.mem_cons_of_mem _ (List.mem_filter.mpr ⟨x_lv_mem.mpr (Or.inr ⟨w, h4, e⟩), ?_⟩)
        have h5 : ¬ q.1 + 1 = i := by omega
        simp [h3, h5]
theorem x_LR_s2 {tr : Value → Value} {nL : Nat} {ls : Array Slot} {L : x_L} {M : x_J} {i : Nat} {x : Int64} (hlen : L.length = nL) (htr : ∀ v : Value, (tr v).category = v.category)
    (h : lv_has ls nL ((i, Value.long x) :: (x_lv tr L M).filter (fun q => !(q.1 == i) && (!(q.1 == i + 1) && !(q.1 + 1 == i && q.2.category == 2))))) : x_LR tr nL ls (x_s2 L i) (x_m2 M i x) := by
  refine ⟨⟨h.1, h.2.1, fun q hq => h.2.2 q ?_⟩, by unfold x_s2; rw [x_set_len, x_set_len]; exact hlen⟩
  rw [x_lv_mem] at hq
  rcases hq with ⟨w, hw, e⟩ | ⟨w, hw, e⟩
  · unfold x_s2 at hw
    obtain ⟨h1, h2⟩ := x_lg_set0 hw
    obtain ⟨h3, h4⟩ := x_lg_set0 h2
    refine List.mem_cons_of_mem _ (List.mem_filter.mpr ⟨x_lv_mem.mpr (Or.inl ⟨w, h4, e⟩), ?_⟩)
    have hc : q.2.category = 1 := by rw [e, htr]; exact x_lg_cat h4
    simp [h1, h3, hc]
  · unfold x_m2 at hw
    rcases x_jg_set hw with ⟨h1, h2⟩ | ⟨h1, h2⟩
    · obtain ⟨a, b⟩ := q
      simp only at h1 e
      cases h2
      rw [h1, e]
      exact List.mem_cons_self
    · rcases x_jg_set h2 with ⟨-, h4⟩ | ⟨h3, h4⟩
      · cases h4
      · rcases x_jg_set h4 with ⟨-, h6⟩ | ⟨h5, h6⟩
        · cases h6
        · refine List.mem_cons_of_mem _ (List.mem_filter.mpr ⟨x_lv_mem.mpr (Or.inr ⟨w, h6, e⟩), ?_⟩)
          have h7 : ¬ q.1 + 1 = i := by omega
          simp [h1, h3, h7]
