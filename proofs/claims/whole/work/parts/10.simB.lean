/-! the words that may be carried over a call -/
theorem x_mg {w : Cond} (h : w ∈ lw_tbl) (hg : goodWord w = true) : w ∈ lw_g := List.mem_filter.mpr ⟨h, hg⟩
theorem x_tb_s {p : Nat} {w : Cond} (h : x_tb p w = true) : w ∈ lw_tbl := List.mem_of_getElem? (of_decide_eq_true h)
theorem x_tg_s {p : Nat} {w : Cond} (h : x_tb p w = true) (hg : goodWord w = true) : w ∈ lw_g := x_mg (x_tb_s h) hg
theorem x_lay_good (C : String) (T : u_T) (k : Nat) : goodWord (u_lay C T k) = true := by
  unfold u_lay
  split <;> rfl
theorem x_u_g {C : String} {T : u_T} {N : Nat} (h : ∀ w ∈ u_ws C T N, w ∈ lw_tbl) : ∀ w ∈ u_ws C T N, w ∈ lw_g := by
  intro w hw
  refine x_mg (h w hw) ?_
  unfold u_ws at hw
  obtain ⟨k, -, rfl⟩ := List.mem_map.mp hw
  exact x_lay_good C T k
theorem x_in_all : ∀ c, c < 13 → ∀ w ∈ u_ws (x_cn c).1 (x_cn c).2.1 (x_cn c).2.2, w ∈ lw_g
  | 0, _ => x_u_g x_in0
  | 1, _ => x_u_g x_in1
  | 2, _ => x_u_g x_in2
  | 3, _ => x_u_g x_in3
  | 4, _ => x_u_g x_in4
  | 5, _ => x_u_g x_in5
  | 6, _ => x_u_g x_in6
  | 7, _ => x_u_g x_in7
  | 8, _ => x_u_g x_in8
  | 9, _ => x_u_g x_in9
  | 10, _ => x_u_g x_in10
  | 11, _ => x_u_g x_in11
  | 12, _ => x_u_g x_in12
  | n + 13, h => absurd h (by omega)
theorem x_cl_get : ∀ c, c < 13 → x_cl[c]? = some ((x_cn c).1, (x_cn c).2.1, (x_cn c).2.2)
  | 0, _ => rfl
  | 1, _ => rfl
  | 2, _ => rfl
  | 3, _ => rfl
  | 4, _ => rfl
  | 5, _ => rfl
  | 6, _ => rfl
  | 7, _ => rfl
  | 8, _ => rfl
  | 9, _ => rfl
  | 10, _ => rfl
  | 11, _ => rfl
  | 12, _ => rfl
  | n + 13, h => absurd h (by omega)
theorem x_ty_all : ∀ c, c < 13 → ∀ k, k < (x_cn c).2.2 → parseFieldDescriptor ((x_cn c).2.1 k).2.2.1 = some (x_ty c k)
  | 0, _ => x_ty0
  | 1, _ => x_ty1
  | 2, _ => x_ty2
  | 3, _ => x_ty3
  | 4, _ => x_ty4
  | 5, _ => x_ty5
  | 6, _ => x_ty6
  | 7, _ => x_ty7
  | 8, _ => x_ty8
  | 9, _ => x_ty9
  | 10, _ => x_ty10
  | 11, _ => x_ty11
  | 12, _ => x_ty12
  | n + 13, h => absurd h (by omega)
theorem x_nm_all : ∀ c, c < 13 → ∀ a, a < (x_cn c).2.2 → ∀ b, b < (x_cn c).2.2 → a ≠ b → ((x_cn c).2.1 a).2.1 ≠ ((x_cn c).2.1 b).2.1
  | 0, _ => x_nm0
  | 1, _ => x_nm1
  | 2, _ => x_nm2
  | 3, _ => x_nm3
  | 4, _ => x_nm4
  | 5, _ => x_nm5
  | 6, _ => x_nm6
  | 7, _ => x_nm7
  | 8, _ => x_nm8
  | 9, _ => x_nm9
  | 10, _ => x_nm10
  | 11, _ => x_nm11
  | 12, _ => x_nm12
  | n + 13, h => absurd h (by omega)
theorem x_inst_all : ∀ c, c < 13 → Cond.instantiable (x_cn c).1 (x_cn c).2.2 ∈ lw_g
  | 0, _ => x_mg x_ins0 rfl
  | 1, _ => x_mg x_ins1 rfl
  | 2, _ => x_mg x_ins2 rfl
  | 3, _ => x_mg x_ins3 rfl
  | 4, _ => x_mg x_ins4 rfl
  | 5, _ => x_mg x_ins5 rfl
  | 6, _ => x_mg x_ins6 rfl
  | 7, _ => x_mg x_ins7 rfl
  | 8, _ => x_mg x_ins8 rfl
  | 9, _ => x_mg x_ins9 rfl
  | 10, _ => x_mg x_ins10 rfl
  | 11, _ => x_mg x_ins11 rfl
  | 12, _ => x_mg x_ins12 rfl
  | n + 13, h => absurd h (by omega)
theorem x_init_all : ∀ c, c < 13 → Cond.initialized (x_cn c).1 ∈ lw_g
  | 0, _ => x_mg (List.mem_of_getElem? (i := 142) (by decide +kernel)) rfl
  | 1, _ => x_mg (List.mem_of_getElem? (i := 144) (by decide +kernel)) rfl
  | 2, _ => x_mg (List.mem_of_getElem? (i := 146) (by decide +kernel)) rfl
  | 3, _ => x_mg (List.mem_of_getElem? (i := 151) (by decide +kernel)) rfl
  | 4, _ => x_mg (List.mem_of_getElem? (i := 149) (by decide +kernel)) rfl
  | 5, _ => x_mg (List.mem_of_getElem? (i := 147) (by decide +kernel)) rfl
  | 6, _ => x_mg (List.mem_of_getElem? (i := 141) (by decide +kernel)) rfl
  | 7, _ => x_mg (List.mem_of_getElem? (i := 145) (by decide +kernel)) rfl
  | 8, _ => x_mg (List.mem_of_getElem? (i := 140) (by decide +kernel)) rfl
  | 9, _ => x_mg (List.mem_of_getElem? (i := 148) (by decide +kernel)) rfl
  | 10, _ => x_mg (List.mem_of_getElem? (i := 150) (by decide +kernel)) rfl
  | 11, _ => x_mg (List.mem_of_getElem? (i := 139) (by decide +kernel)) rfl
  | 12, _ => x_mg (List.mem_of_getElem? (i := 152) (by decide +kernel)) rfl
  | n + 13, h => absurd h (by omega)
theorem x_kind_all : ∀ c, c < 13 → ∀ k, k < (x_cn c).2.2 → x_isr (x_ty c k) = true ∨ x_ty c k = .int ∨ x_ty c k = .boolean := by decide +kernel
theorem x_isr_fit {t : FieldType} (h : x_isr t = true) (a : Nat) : narrow t (.ref a) = .ref a ∧ fits t (.ref a) = true ∧ defaultValue t = .null := by
  cases t <;> first | (exact absurd h (by decide)) | exact ⟨rfl, rfl, rfl⟩
theorem x_fs_get {base c i k : Nat} {h : x_H} (hk : k < (x_cn c).2.2) : ((List.range (x_cn c).2.2).map (x_fv base c i h))[k]? = some (x_fv base c i h k) := by
  rw [List.getElem?_map, List.getElem?_range hk]; rfl
theorem x_fs_set {base c i k : Nat} {h h' : x_H} {v : Value} (hk : k < (x_cn c).2.2) (ho : ∀ k', k' ≠ k → x_fv base c i h' k' = x_fv base c i h k') (hv : x_fv base c i h' k = v) :
    (List.range (x_cn c).2.2).map (x_fv base c i h') = ((List.range (x_cn c).2.2).map (x_fv base c i h)).set k v := by
  apply List.ext_getElem?
  intro j
  by_cases hj : j = k
  · subst hj
    rw [List.getElem?_set_self (by rw [List.length_map, List.length_range]; exact hk), x_fs_get hk, hv]
  · rw [List.getElem?_set_ne (Ne.symm hj), List.getElem?_map, List.getElem?_map]
    cases hr : (List.range (x_cn c).2.2)[j]? with
    | none => rfl
    | some q =>
      have hq : q = j := by
        by_cases hl : j < (x_cn c).2.2
        · rw [List.getElem?_range hl] at hr; exact (Option.some.inj hr).symm
        · rw [List.getElem?_eq_none (by rw [List.length_range]; omega)] at hr; cases hr
      subst hq
      simp only [Option.map_some, ho q hj]
theorem x_ob_s {h : x_H} {o c : Nat} (hb : x_ob h o c = true) : h.1[o]? = some (.inl c) := by
  unfold x_ob x_kd at hb
  rw [x_at_eq] at hb
  cases hk : h.1[o]? with
  | none => rw [hk] at hb; cases hb
  | some k =>
    rw [hk] at hb
    cases k with
    | inr q => cases hb
    | inl c' =>
      have : c' = c := by simpa using hb
      rw [this]
theorem x_ar_s {h : x_H} {o : Nat} {q : Nat × Nat} (hb : x_ar h o = some q) : h.1[o]? = some (.inr q) := by
  unfold x_ar x_kd at hb
  rw [x_at_eq] at hb
  cases hk : h.1[o]? with
  | none => rw [hk] at hb; cases hb
  | some k =>
    rw [hk] at hb
    cases k with
    | inl c => cases hb
    | inr q' => cases hb; rfl
theorem x_lt_of {h : x_H} {o : Nat} {k : x_K} (hk : h.1[o]? = some k) (hl : h.1.length ≤ 100000) : o < 100000 := Nat.lt_of_lt_of_le (List.getElem?_eq_some_iff.mp hk).1 hl
theorem x_u2_ne {α : Type} {f : Nat → Nat → α} {i k i' : Nat} {x : α} (h : i' ≠ i) : x_u2 f i k x i' = f i' := by unfold x_u2; rw [if_neg h]
theorem x_u2_eq {α : Type} (f : Nat → Nat → α) (i k : Nat) (x : α) : x_u2 f i k x i = fun k' => if k' = k then x else f i k' := by unfold x_u2; rw [if_pos rfl]
theorem x_u1_ne {α : Type} {f : Nat → Nat → α} {i i' : Nat} {g : Nat → α} (h : i' ≠ i) : x_u1 f i g i' = f i' := by unfold x_u1; rw [if_neg h]
theorem x_u1_eq {α : Type} (f : Nat → Nat → α) (i : Nat) (g : Nat → α) : x_u1 f i g i = g := by unfold x_u1; rw [if_pos rfl]
