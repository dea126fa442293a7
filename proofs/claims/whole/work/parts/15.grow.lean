/-! heaps only grow; a step stays in its method -/
def x_mo (y : Nat) (h : x_H) (o : Option x_O) : Prop := ∀ z, o = some z → (∀ (f' : x_F) (h' : x_H), z = .inl (f', h') → f'.1 = y ∧ h.1.length ≤ h'.1.length ∧ x_wt h.1 ≤ x_wt h'.1) ∧ (∀ (q : Nat × List Value) (f' : x_F) (h' : x_H), z = .inr (.inr (q, f', h')) → f'.1 = y ∧ h' = h) ∧ ∀ r : Option Value × x_H, z = .inr (.inl r) → r.2 = h
section XMO
variable {y pc : Nat} {L : x_L} {M : x_J} {S : List Value} {h : x_H}
theorem x_mo_none : x_mo y h none := fun z hz => by cases hz
theorem x_mo_go {h1 : x_H} (hk : h1.1 = h.1) : x_mo y h (x_go y pc L M S h1) := by
  intro z hz
  cases hz
  refine ⟨fun f' h' e => ?_, fun q f' h' e => ?_, fun r e => ?_⟩
  · cases e
    exact ⟨rfl, by rw [hk]; exact Nat.le_refl _, by rw [hk]; exact Nat.le_refl _⟩
  · cases e
  · cases e
theorem x_mo_gop {h1 : x_H} {k : x_K} (hk : h1.1 = h.1 ++ [k]) : x_mo y h (x_go y pc L M S h1) := by
  intro z hz
  cases hz
  refine ⟨fun f' h' e => ?_, fun q f' h' e => ?_, fun r e => ?_⟩
  · cases e
    refine ⟨rfl, by rw [hk, List.length_append]; exact Nat.le_add_right _ _, by rw [hk, x_wt_push]; exact Nat.le_add_right _ _⟩
  · cases e
  · cases e
theorem x_mo_cal0 {q : Nat × List Value} {pc' : Nat} {r : List Value} : x_mo y h (some (.inr (.inr (q, (y, pc', L, M, r), h)))) := by
  intro z hz
  cases hz
  refine ⟨fun f' h' e => ?_, fun q f' h' e => ?_, fun r e => ?_⟩
  · cases e
  · cases e
    exact ⟨rfl, rfl⟩
  · cases e
theorem x_mo_ret {v : Option Value} : x_mo y h (some (.inr (.inl (v, h)))) := by
  intro z hz
  cases hz
  refine ⟨fun f' h' e => ?_, fun q f' h' e => ?_, fun r e => ?_⟩
  · cases e
  · cases e
  · cases e
    rfl
theorem x_mo_in {i : Int32} {n : Nat} {A : Option x_O} (hA : x_mo y h A) : x_mo y h (x_in? i n A) := by
  unfold x_in?
  split
  · exact x_mo_none
  · exact hA
theorem x_mo_psh {v : Option Value} {pc' : Nat} : x_mo y h (x_psh y pc' L M S h v) := by
  unfold x_psh
  repeat' split
  all_goals (first | exact x_mo_none | exact x_mo_go rfl | exact x_mo_gop rfl | exact x_mo_cal0 | exact x_mo_ret | exact x_mo_in (x_mo_go rfl))
theorem x_mo_jmp {t : Option Nat} : x_mo y h (x_jmp y L M S h t) := by
  unfold x_jmp
  repeat' split
  all_goals (first | exact x_mo_none | exact x_mo_go rfl | exact x_mo_gop rfl | exact x_mo_cal0 | exact x_mo_ret | exact x_mo_in (x_mo_go rfl))
theorem x_mo_bin {fn : Int32 → Int32 → Option Int32} : x_mo y h (x_bin y pc L M S h fn) := by
  unfold x_bin
  repeat' split
  all_goals (first | exact x_mo_none | exact x_mo_go rfl | exact x_mo_gop rfl | exact x_mo_cal0 | exact x_mo_ret | exact x_mo_in (x_mo_go rfl))
theorem x_mo_un {fn : Int32 → Value} : x_mo y h (x_un y pc L M S h fn) := by
  unfold x_un
  repeat' split
  all_goals (first | exact x_mo_none | exact x_mo_go rfl | exact x_mo_gop rfl | exact x_mo_cal0 | exact x_mo_ret | exact x_mo_in (x_mo_go rfl))
theorem x_mo_lbin {fn : Int64 → Int64 → Value} : x_mo y h (x_lbin y pc L M S h fn) := by
  unfold x_lbin
  repeat' split
  all_goals (first | exact x_mo_none | exact x_mo_go rfl | exact x_mo_gop rfl | exact x_mo_cal0 | exact x_mo_ret | exact x_mo_in (x_mo_go rfl))
theorem x_mo_si {i : Nat} : x_mo y h (x_si y pc i L M S h) := by
  unfold x_si
  repeat' split
  all_goals (first | exact x_mo_none | exact x_mo_go rfl | exact x_mo_gop rfl | exact x_mo_cal0 | exact x_mo_ret | exact x_mo_in (x_mo_go rfl))
theorem x_mo_sa {i : Nat} : x_mo y h (x_sa y pc i L M S h) := by
  unfold x_sa
  repeat' split
  all_goals (first | exact x_mo_none | exact x_mo_go rfl | exact x_mo_gop rfl | exact x_mo_cal0 | exact x_mo_ret | exact x_mo_in (x_mo_go rfl))
theorem x_mo_sj {i : Nat} : x_mo y h (x_sj y pc i L M S h) := by
  unfold x_sj
  repeat' split
  all_goals (first | exact x_mo_none | exact x_mo_go rfl | exact x_mo_gop rfl | exact x_mo_cal0 | exact x_mo_ret | exact x_mo_in (x_mo_go rfl))
theorem x_mo_inc {i : Nat} {n : Int} : x_mo y h (x_inc y pc i n L M S h) := by
  unfold x_inc
  repeat' split
  all_goals (first | exact x_mo_none | exact x_mo_go rfl | exact x_mo_gop rfl | exact x_mo_cal0 | exact x_mo_ret | exact x_mo_in (x_mo_go rfl))
theorem x_mo_gf {a k q : Nat} : x_mo y h (x_gf y pc L M S h a k q) := by
  unfold x_gf
  repeat' split
  all_goals (first | exact x_mo_none | exact x_mo_go rfl | exact x_mo_gop rfl | exact x_mo_cal0 | exact x_mo_ret | exact x_mo_in (x_mo_go rfl))
theorem x_mo_pf {a k q : Nat} : x_mo y h (x_pf y pc L M S h a k q) := by
  unfold x_pf
  repeat' split
  all_goals (first | exact x_mo_none | exact x_mo_go rfl | exact x_mo_gop rfl | exact x_mo_cal0 | exact x_mo_ret | exact x_mo_in (x_mo_go rfl))
theorem x_mo_iald {xs : Nat → Int32} {xl : Nat} : x_mo y h (x_iald xs xl y pc L M S h) := by
  unfold x_iald
  repeat' split
  all_goals (first | exact x_mo_none | exact x_mo_go rfl | exact x_mo_gop rfl | exact x_mo_cal0 | exact x_mo_ret | exact x_mo_in (x_mo_go rfl))
theorem x_mo_bald  : x_mo y h (x_bald y pc L M S h) := by
  unfold x_bald
  repeat' split
  all_goals (first | exact x_mo_none | exact x_mo_go rfl | exact x_mo_gop rfl | exact x_mo_cal0 | exact x_mo_ret | exact x_mo_in (x_mo_go rfl))
theorem x_mo_jald  : x_mo y h (x_jald y pc L M S h) := by
  unfold x_jald
  repeat' split
  all_goals (first | exact x_mo_none | exact x_mo_go rfl | exact x_mo_gop rfl | exact x_mo_cal0 | exact x_mo_ret | exact x_mo_in (x_mo_go rfl))
theorem x_mo_aald  : x_mo y h (x_aald y pc L M S h) := by
  unfold x_aald
  repeat' split
  all_goals (first | exact x_mo_none | exact x_mo_go rfl | exact x_mo_gop rfl | exact x_mo_cal0 | exact x_mo_ret | exact x_mo_in (x_mo_go rfl))
theorem x_mo_iast  : x_mo y h (x_iast y pc L M S h) := by
  unfold x_iast
  repeat' split
  all_goals (first | exact x_mo_none | exact x_mo_go rfl | exact x_mo_gop rfl | exact x_mo_cal0 | exact x_mo_ret | exact x_mo_in (x_mo_go rfl))
theorem x_mo_bast  : x_mo y h (x_bast y pc L M S h) := by
  unfold x_bast
  repeat' split
  all_goals (first | exact x_mo_none | exact x_mo_go rfl | exact x_mo_gop rfl | exact x_mo_cal0 | exact x_mo_ret | exact x_mo_in (x_mo_go rfl))
theorem x_mo_jast  : x_mo y h (x_jast y pc L M S h) := by
  unfold x_jast
  repeat' split
  all_goals (first | exact x_mo_none | exact x_mo_go rfl | exact x_mo_gop rfl | exact x_mo_cal0 | exact x_mo_ret | exact x_mo_in (x_mo_go rfl))
theorem x_mo_aast  : x_mo y h (x_aast y pc L M S h) := by
  unfold x_aast
  repeat' split
  all_goals (first | exact x_mo_none | exact x_mo_go rfl | exact x_mo_gop rfl | exact x_mo_cal0 | exact x_mo_ret | exact x_mo_in (x_mo_go rfl))
theorem x_mo_alen {xl : Nat} : x_mo y h (x_alen xl y pc L M S h) := by
  unfold x_alen
  repeat' split
  all_goals (first | exact x_mo_none | exact x_mo_go rfl | exact x_mo_gop rfl | exact x_mo_cal0 | exact x_mo_ret | exact x_mo_in (x_mo_go rfl))
theorem x_mo_new {a : Nat} : x_mo y h (x_new y pc L M S h a) := by
  unfold x_new
  repeat' split
  all_goals (first | exact x_mo_none | exact x_mo_go rfl | exact x_mo_gop rfl | exact x_mo_cal0 | exact x_mo_ret | exact x_mo_in (x_mo_go rfl))
theorem x_mo_newa {a : Nat} : x_mo y h (x_newa y pc L M S h a) := by
  unfold x_newa
  repeat' split
  all_goals (first | exact x_mo_none | exact x_mo_go rfl | exact x_mo_gop rfl | exact x_mo_cal0 | exact x_mo_ret | exact x_mo_in (x_mo_go rfl))
theorem x_mo_newq  : x_mo y h (x_newq y pc L M S h) := by
  unfold x_newq
  repeat' split
  all_goals (first | exact x_mo_none | exact x_mo_go rfl | exact x_mo_gop rfl | exact x_mo_cal0 | exact x_mo_ret | exact x_mo_in (x_mo_go rfl))
theorem x_mo_call {z n : Nat} : x_mo y h (x_call y pc L M S h z n) := by
  unfold x_call
  repeat' split
  all_goals (first | exact x_mo_none | exact x_mo_go rfl | exact x_mo_gop rfl | exact x_mo_cal0 | exact x_mo_ret | exact x_mo_in (x_mo_go rfl))
theorem x_mo_callv {z n : Nat} : x_mo y h (x_callv y pc L M S h z n) := by
  unfold x_callv
  repeat' split
  all_goals (first | exact x_mo_none | exact x_mo_go rfl | exact x_mo_gop rfl | exact x_mo_cal0 | exact x_mo_ret | exact x_mo_in (x_mo_go rfl))
theorem x_mo_calld {z n k : Nat} : x_mo y h (x_calld y pc L M S h z n k) := by
  unfold x_calld
  repeat' split
  all_goals (first | exact x_mo_none | exact x_mo_go rfl | exact x_mo_gop rfl | exact x_mo_cal0 | exact x_mo_ret | exact x_mo_in (x_mo_go rfl))
theorem x_mo_copy  : x_mo y h (x_copy y pc L M S h) := by
  unfold x_copy
  repeat' split
  all_goals (first | exact x_mo_none | exact x_mo_go rfl | exact x_mo_gop rfl | exact x_mo_cal0 | exact x_mo_ret | exact x_mo_in (x_mo_go rfl))
theorem x_mo_obi  : x_mo y h (x_obi y pc L M S h) := by
  unfold x_obi
  repeat' split
  all_goals (first | exact x_mo_none | exact x_mo_go rfl | exact x_mo_gop rfl | exact x_mo_cal0 | exact x_mo_ret | exact x_mo_in (x_mo_go rfl))
theorem x_mo_mth {fn : Int32 → Int32 → Int32} : x_mo y h (x_mth y pc L M S h fn) := by
  unfold x_mth
  repeat' split
  all_goals (first | exact x_mo_none | exact x_mo_go rfl | exact x_mo_gop rfl | exact x_mo_cal0 | exact x_mo_ret | exact x_mo_in (x_mo_go rfl))
theorem x_mo_mab  : x_mo y h (x_mab y pc L M S h) := by
  unfold x_mab
  repeat' split
  all_goals (first | exact x_mo_none | exact x_mo_go rfl | exact x_mo_gop rfl | exact x_mo_cal0 | exact x_mo_ret | exact x_mo_in (x_mo_go rfl))
theorem x_mo_iret  : x_mo y h (x_iret y S h) := by
  unfold x_iret
  repeat' split
  all_goals (first | exact x_mo_none | exact x_mo_go rfl | exact x_mo_gop rfl | exact x_mo_cal0 | exact x_mo_ret | exact x_mo_in (x_mo_go rfl))
theorem x_mo_jret  : x_mo y h (x_jret S h) := by
  unfold x_jret
  repeat' split
  all_goals (first | exact x_mo_none | exact x_mo_go rfl | exact x_mo_gop rfl | exact x_mo_cal0 | exact x_mo_ret | exact x_mo_in (x_mo_go rfl))
theorem x_mo_vret  : x_mo y h (x_vret S h) := by
  unfold x_vret
  repeat' split
  all_goals (first | exact x_mo_none | exact x_mo_go rfl | exact x_mo_gop rfl | exact x_mo_cal0 | exact x_mo_ret | exact x_mo_in (x_mo_go rfl))
theorem x_mo_br {c : ClassFile.Cond} {u v : Int32} {A B : Option x_O} (hA : x_mo y h A) (hB : x_mo y h B) : x_mo y h (x_br c u v A B) := by
  unfold x_br
  repeat' split
  all_goals (first | exact hA | exact hB)
set_option maxHeartbeats 4000000 in
theorem x_mo_op {xs : Nat → Int32} {xl : Nat} {e : x_E} : x_mo y h (x_op xs xl y pc L M S h e) := by
  obtain ⟨ins, len, a, b, p, q⟩ := e
  cases ins <;> first
    | exact x_mo_none
    | exact x_mo_go rfl
    | (unfold x_op; dsimp only; (repeat' split); all_goals (first | exact x_mo_none | exact x_mo_go rfl | exact x_mo_br (x_mo_go rfl) (x_mo_go rfl) | exact x_mo_psh | exact x_mo_jmp | exact x_mo_bin | exact x_mo_un | exact x_mo_lbin | exact x_mo_si | exact x_mo_sa | exact x_mo_sj | exact x_mo_inc | exact x_mo_gf | exact x_mo_pf | exact x_mo_iald | exact x_mo_bald | exact x_mo_jald | exact x_mo_aald | exact x_mo_iast | exact x_mo_bast | exact x_mo_jast | exact x_mo_aast | exact x_mo_alen | exact x_mo_new | exact x_mo_newa | exact x_mo_newq | exact x_mo_call | exact x_mo_callv | exact x_mo_calld | exact x_mo_copy | exact x_mo_obi | exact x_mo_mth | exact x_mo_mab | exact x_mo_iret | exact x_mo_jret | exact x_mo_vret))
end XMO
theorem x_mo_st {xs : Nat → Int32} {xl : Nat} {f : x_F} {h : x_H} : x_mo f.1 h (x_st xs xl f h) := by
  unfold x_st
  split
  · split
    · exact x_mo_op
    · exact x_mo_none
  · exact x_mo_none
theorem x_ex_mono {xs : Nat → Int32} {xl : Nat} : ∀ (n : Nat) (f : x_F) (h : x_H) (v : Option Value) (h2 : x_H), x_ex xs xl n f h = some (v, h2) → h.1.length ≤ h2.1.length ∧ x_wt h.1 ≤ x_wt h2.1
  | 0, f, h, v, h2, e => by cases e
  | n + 1, f, h, v, h2, e => by
    have hm : x_mo f.1 h (x_st xs xl f h) := x_mo_st
    unfold x_ex at e
    split at e
    · cases e
    · rename_i f' h' hs
      have h1 := (hm _ hs).1 f' h' rfl
      have h3 := x_ex_mono n f' h' v h2 e
      exact ⟨Nat.le_trans h1.2.1 h3.1, Nat.le_trans h1.2.2 h3.2⟩
    · rename_i r hs
      cases e
      have h1 := (hm _ hs).2.2 (v, h2) rfl
      simp only at h1
      rw [h1]
      exact ⟨Nat.le_refl _, Nat.le_refl _⟩
    · rename_i z As f' h' hs
      have h1 := ((hm _ hs).2.1 (z, As) f' h' rfl).2
      subst h1
      split at e
      · cases e
      · rename_i f0 hf0
        split at e
        · cases e
        · rename_i v1 h3 he
          have q1 := x_ex_mono n f0 h' v1 h3 he
          have q2 := x_ex_mono n (x_ps v1 f') h3 v h2 e
          exact ⟨Nat.le_trans q1.1 q2.1, Nat.le_trans q1.2 q2.2⟩
/-! what stands outside the world stays over a call -/
section XG
variable {base b xl sa sv : Nat} {xs : Nat → Int32} {fv : Value} {D : va_G} {dA : Nat → ClassId}
theorem x_G.kept {U : State} {H H1 : Heap} (g : x_G base b xl sa sv xs fv D dA U H) (hq : ∀ a : Nat, a < H.size → ¬ base ≤ a → H1[a]? = H[a]?) : x_G base b xl sa sv xs fv D dA U H1 := by
  obtain ⟨h1, h2, h3, h4, h5, h6, h7, h8, h9, h10, h11, h12, h13⟩ := g
  have hbl : b < H.size := (Array.getElem?_eq_some_iff.mp h2.choose_spec.1).1
  exact ⟨h1, h2.kept (hq b hbl (Nat.not_le.mpr h3)), h3, h4, h5.kept hq, h6.kept hq, h7.kept hq, h8.kept hq, h9.kept hq, h10.kept hq, h11, h12, h13⟩
theorem x_G.warm {U V : State} {H : Heap} (hW : U.WarmedH V.vm) (g : x_G base b xl sa sv xs fv D dA U H) : x_G base b xl sa sv xs fv D dA V H := by
  obtain ⟨h1, h2, h3, h4, h5, h6, h7, h8, h9, h10, h11, h12, h13⟩ := g
  have ha := hW.alike
  refine ⟨h1.moved ha, h2.moved ha, h3, vk_R.warm hW h4, h5.moved ha, h6.moved ha, h7.moved ha, h8.moved ha, h9.moved ha, h10.moved ha, h11, h12.moved ha, fun w hw hn => ?_⟩
  have hz := h13 w hw hn
  cases w with
  | methodLinkNest a i x h => exact va_Nw.warmM hW hz
  | _ => cases hn
theorem x_G.same {U V : State} {H : Heap} (hv : U.vm = V.vm) (g : x_G base b xl sa sv xs fv D dA U H) : x_G base b xl sa sv xs fv D dA V H := by
  obtain ⟨h1, h2, h3, h4, h5, h6, h7, h8, h9, h10, h11, h12, h13⟩ := g
  have ha : U.vm.Alike V.vm := by rw [hv]; exact Vm.Alike.refl _
  refine ⟨h1.moved ha, h2.moved ha, h3, vk_R.same hv.symm h4, h5.moved ha, h6.moved ha, h7.moved ha, h8.moved ha, h9.moved ha, h10.moved ha, h11, h12.moved ha, fun w hw hn => ?_⟩
  have hz := h13 w hw hn
  cases w with
  | methodLinkNest a i x h => exact va_Nw.same rfl hv hz
  | _ => cases hn
end XG
/-! the first frame of a method -/
theorem x_lg_eL {tr : Value → Value} (htr : ∀ v : Value, (tr v).category = v.category) : ∀ (As : List Value) (j i : Nat) (v : Value), x_lg (x_eL As) j = some v → (i + j, tr v) ∈ lv_args i (As.map tr)
  | [], j, i, v, hv => by cases hv
  | .long u :: As, j, i, v, hv => by
    have hc : (tr (.long u)).category = 2 := by rw [htr]; rfl
    simp only [List.map_cons, lv_args, hc, if_true]
    match j, hv with
    | 0, hv => cases hv
    | 1, hv => cases hv
    | j + 2, hv =>
      have := x_lg_eL htr As j (i + 2) v hv
      rw [show i + (j + 2) = i + 2 + j by omega]
      exact List.mem_cons_of_mem _ this
  | .int u :: As, j, i, v, hv => by
    have hc : ¬ (tr (.int u)).category = 2 := by rw [htr]; intro z; cases z
    simp only [List.map_cons, lv_args, hc, if_false]
    match j, hv with
    | 0, hv => cases hv; exact List.mem_cons_self
    | j + 1, hv =>
      have := x_lg_eL htr As j (i + 1) v hv
      rw [show i + (j + 1) = i + 1 + j by omega]
      exact List.mem_cons_of_mem _ this
  | .float u :: As, j, i, v, hv => by
    have hc : ¬ (tr (.float u)).category = 2 := by rw [htr]; intro z; cases z
    simp only [List.map_cons, lv_args, hc, if_false]
    match j, hv with
    | 0, hv => cases hv
    | j + 1, hv =>
      have := x_lg_eL htr As j (i + 1) v hv
      rw [show i + (j + 1) = i + 1 + j by omega]
      exact List.mem_cons_of_mem _ this
  | .null :: As, j, i, v, hv => by
    have hc : ¬ (tr (.null)).category = 2 := by rw [htr]; intro z; cases z
    simp only [List.map_cons, lv_args, hc, if_false]
    match j, hv with
    | 0, hv => cases hv
    | j + 1, hv =>
      have := x_lg_eL htr As j (i + 1) v hv
      rw [show i + (j + 1) = i + 1 + j by omega]
      exact List.mem_cons_of_mem _ this
  | .ref u :: As, j, i, v, hv => by
    have hc : ¬ (tr (.ref u)).category = 2 := by rw [htr]; intro z; cases z
    simp only [List.map_cons, lv_args, hc, if_false]
    match j, hv with
    | 0, hv => cases hv; exact List.mem_cons_self
    | j + 1, hv =>
      have := x_lg_eL htr As j (i + 1) v hv
      rw [show i + (j + 1) = i + 1 + j by omega]
      exact List.mem_cons_of_mem _ this
  | .retAddr u :: As, j, i, v, hv => by
    have hc : ¬ (tr (.retAddr u)).category = 2 := by rw [htr]; intro z; cases z
    simp only [List.map_cons, lv_args, hc, if_false]
    match j, hv with
    | 0, hv => cases hv
    | j + 1, hv =>
      have := x_lg_eL htr As j (i + 1) v hv
      rw [show i + (j + 1) = i + 1 + j by omega]
      exact List.mem_cons_of_mem _ this
  | .double u :: As, j, i, v, hv => by
    have hc : (tr (.double u)).category = 2 := by rw [htr]; rfl
    simp only [List.map_cons, lv_args, hc, if_true]
    match j, hv with
    | 0, hv => cases hv
    | 1, hv => cases hv
    | j + 2, hv =>
      have := x_lg_eL htr As j (i + 2) v hv
      rw [show i + (j + 2) = i + 2 + j by omega]
      exact List.mem_cons_of_mem _ this
theorem x_jg_eM {tr : Value → Value} (htr : ∀ v : Value, (tr v).category = v.category) (hlg : ∀ x : Int64, tr (.long x) = .long x) : ∀ (As : List Value) (j i : Nat) (v : Int64), x_jg (x_eM As) j = some v → (i + j, Value.long v) ∈ lv_args i (As.map tr)
  | [], j, i, v, hv => by cases hv
  | .long u :: As, j, i, v, hv => by
    have hc : (tr (.long u)).category = 2 := by rw [htr]; rfl
    simp only [List.map_cons, lv_args, hc, if_true]
    match j, hv with
    | 0, hv => cases hv; rw [hlg]; exact List.mem_cons_self
    | 1, hv => cases hv
    | j + 2, hv =>
      have := x_jg_eM htr hlg As j (i + 2) v hv
      rw [show i + (j + 2) = i + 2 + j by omega]
      exact List.mem_cons_of_mem _ this
  | .int u :: As, j, i, v, hv => by
    have hc : ¬ (tr (.int u)).category = 2 := by rw [htr]; intro z; cases z
    simp only [List.map_cons, lv_args, hc, if_false]
    match j, hv with
    | 0, hv => cases hv
    | j + 1, hv =>
      have := x_jg_eM htr hlg As j (i + 1) v hv
      rw [show i + (j + 1) = i + 1 + j by omega]
      exact List.mem_cons_of_mem _ this
  | .float u :: As, j, i, v, hv => by
    have hc : ¬ (tr (.float u)).category = 2 := by rw [htr]; intro z; cases z
    simp only [List.map_cons, lv_args, hc, if_false]
    match j, hv with
    | 0, hv => cases hv
    | j + 1, hv =>
      have := x_jg_eM htr hlg As j (i + 1) v hv
      rw [show i + (j + 1) = i + 1 + j by omega]
      exact List.mem_cons_of_mem _ this
  | .null :: As, j, i, v, hv => by
    have hc : ¬ (tr (.null)).category = 2 := by rw [htr]; intro z; cases z
    simp only [List.map_cons, lv_args, hc, if_false]
    match j, hv with
    | 0, hv => cases hv
    | j + 1, hv =>
      have := x_jg_eM htr hlg As j (i + 1) v hv
      rw [show i + (j + 1) = i + 1 + j by omega]
      exact List.mem_cons_of_mem _ this
  | .ref u :: As, j, i, v, hv => by
    have hc : ¬ (tr (.ref u)).category = 2 := by rw [htr]; intro z; cases z
    simp only [List.map_cons, lv_args, hc, if_false]
    match j, hv with
    | 0, hv => cases hv
    | j + 1, hv =>
      have := x_jg_eM htr hlg As j (i + 1) v hv
      rw [show i + (j + 1) = i + 1 + j by omega]
      exact List.mem_cons_of_mem _ this
  | .retAddr u :: As, j, i, v, hv => by
    have hc : ¬ (tr (.retAddr u)).category = 2 := by rw [htr]; intro z; cases z
    simp only [List.map_cons, lv_args, hc, if_false]
    match j, hv with
    | 0, hv => cases hv
    | j + 1, hv =>
      have := x_jg_eM htr hlg As j (i + 1) v hv
      rw [show i + (j + 1) = i + 1 + j by omega]
      exact List.mem_cons_of_mem _ this
  | .double u :: As, j, i, v, hv => by
    have hc : (tr (.double u)).category = 2 := by rw [htr]; rfl
    simp only [List.map_cons, lv_args, hc, if_true]
    match j, hv with
    | 0, hv => cases hv
    | 1, hv => cases hv
    | j + 2, hv =>
      have := x_jg_eM htr hlg As j (i + 2) v hv
      rw [show i + (j + 2) = i + 2 + j by omega]
      exact List.mem_cons_of_mem _ this
theorem x_pad_len {α : Type} : ∀ (n : Nat) (l : List (Option α)), (x_pad n l).length = n
  | 0, l => rfl
  | n + 1, [] => by simp only [x_pad, List.length_cons, x_pad_len n []]
  | n + 1, a :: l => by simp only [x_pad, List.length_cons, x_pad_len n l]
theorem x_pad_at {α : Type} : ∀ (n : Nat) (l : List (Option α)) (j : Nat) (a : α), x_at (x_pad n l) j = some (some a) → x_at l j = some (some a)
  | 0, l, j, a, h => by cases h
  | n + 1, [], 0, a, h => by cases h
  | n + 1, [], j + 1, a, h => by
    have := x_pad_at n [] j a h
    cases this
  | n + 1, b :: l, 0, a, h => h
  | n + 1, b :: l, j + 1, a, h => x_pad_at n l j a h
theorem x_lg_pad {n : Nat} {l : x_L} {j : Nat} {v : Value} (h : x_lg (x_pad n l) j = some v) : x_lg l j = some v := by
  unfold x_lg at h ⊢
  split at h
  · rename_i x hx
    rw [x_pad_at n l j _ hx]
    exact h
  · rename_i x hx
    rw [x_pad_at n l j _ hx]
    exact h
  · cases h
theorem x_jg_pad {n : Nat} {l : x_J} {j : Nat} {v : Int64} (h : x_jg (x_pad n l) j = some v) : x_jg l j = some v := by
  unfold x_jg at h ⊢
  split at h
  · rename_i x hx
    rw [x_pad_at n l j _ hx]
    exact h
  · cases h
theorem x_LR_entry {tr : Value → Value} (htr : ∀ v : Value, (tr v).category = v.category) (hlg : ∀ x : Int64, tr (.long x) = .long x) {As : List Value} {n : Nat} {ls : Array Slot} {M : x_J} (hM : ∀ j v, x_jg M j = some v → x_jg (x_eM As) j = some v) (hl : lv_has ls n (lv_args 0 (As.map tr))) : x_LR tr n ls (x_pad n (x_eL As)) M := by
  refine ⟨⟨hl.1, hl.2.1, fun q hq => hl.2.2 q ?_⟩, x_pad_len n _⟩
  rw [x_lv_mem] at hq
  obtain ⟨i, w⟩ := q
  rcases hq with ⟨v, hv, e⟩ | ⟨v, hv, e⟩
  · have := x_lg_eL htr As i 0 v (x_lg_pad hv)
    rw [Nat.zero_add] at this
    simp only at e
    rw [e]
    exact this
  · have := x_jg_eM htr hlg As i 0 v (hM _ _ hv)
    rw [Nat.zero_add] at this
    simp only at e
    rw [e]
    exact this
