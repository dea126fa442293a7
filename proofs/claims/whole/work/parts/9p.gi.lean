section
/-! the constructors' run: references, kinds -/
def q_mi (h : x_H) (o : Option x_O) : Prop := ∀ (f' : x_F) (h' : x_H), o = some (.inl (f', h')) → (h'.1 = h.1 ∨ ∃ k, h'.1 = h.1 ++ [k]) ∧ h'.2.2.2 = h.2.2.2
def q_spc (i : Instr) : Bool := match i with
  | .new _ => true
  | .anewarray _ => true
  | .putfield _ => true
  | .aastore => true
  | _ => false
section XMI
variable {y pc : Nat} {L : x_L} {M : x_J} {S : List Value} {h : x_H}
theorem q_mi_none : q_mi h none := fun f' h' hz => by cases hz
theorem q_mi_go {h1 : x_H} (hk : h1.1 = h.1) (hr : h1.2.2.2 = h.2.2.2) : q_mi h (x_go y pc L M S h1) := by
  intro f' h' hz
  cases hz
  exact ⟨Or.inl hk, hr⟩
theorem q_mi_gop {h1 : x_H} {k : x_K} (hk : h1.1 = h.1 ++ [k]) (hr : h1.2.2.2 = h.2.2.2) : q_mi h (x_go y pc L M S h1) := by
  intro f' h' hz
  cases hz
  exact ⟨Or.inr ⟨k, hk⟩, hr⟩
theorem q_mi_cal0 {q : Nat × List Value} {pc' : Nat} {r : List Value} : q_mi h (some (.inr (.inr (q, (y, pc', L, M, r), h)))) := fun f' h' hz => by cases hz
theorem q_mi_ret {v : Option Value} : q_mi h (some (.inr (.inl (v, h)))) := fun f' h' hz => by cases hz
theorem q_mi_in {i : Int32} {n : Nat} {A : Option x_O} (hA : q_mi h A) : q_mi h (x_in? i n A) := by
  unfold x_in?
  split
  · exact q_mi_none
  · exact hA
theorem q_mi_psh {v : Option Value} {pc' : Nat} : q_mi h (x_psh y pc' L M S h v) := by
  unfold x_psh
  repeat' split
  all_goals (first | exact q_mi_none | exact q_mi_go rfl rfl | exact q_mi_gop rfl rfl | exact q_mi_cal0 | exact q_mi_ret | exact q_mi_in (q_mi_go rfl rfl))
theorem q_mi_jmp {t : Option Nat} : q_mi h (x_jmp y L M S h t) := by
  unfold x_jmp
  repeat' split
  all_goals (first | exact q_mi_none | exact q_mi_go rfl rfl | exact q_mi_gop rfl rfl | exact q_mi_cal0 | exact q_mi_ret | exact q_mi_in (q_mi_go rfl rfl))
theorem q_mi_bin {fn : Int32 → Int32 → Option Int32} : q_mi h (x_bin y pc L M S h fn) := by
  unfold x_bin
  repeat' split
  all_goals (first | exact q_mi_none | exact q_mi_go rfl rfl | exact q_mi_gop rfl rfl | exact q_mi_cal0 | exact q_mi_ret | exact q_mi_in (q_mi_go rfl rfl))
theorem q_mi_un {fn : Int32 → Value} : q_mi h (x_un y pc L M S h fn) := by
  unfold x_un
  repeat' split
  all_goals (first | exact q_mi_none | exact q_mi_go rfl rfl | exact q_mi_gop rfl rfl | exact q_mi_cal0 | exact q_mi_ret | exact q_mi_in (q_mi_go rfl rfl))
theorem q_mi_lbin {fn : Int64 → Int64 → Value} : q_mi h (x_lbin y pc L M S h fn) := by
  unfold x_lbin
  repeat' split
  all_goals (first | exact q_mi_none | exact q_mi_go rfl rfl | exact q_mi_gop rfl rfl | exact q_mi_cal0 | exact q_mi_ret | exact q_mi_in (q_mi_go rfl rfl))
theorem q_mi_si {i : Nat} : q_mi h (x_si y pc i L M S h) := by
  unfold x_si
  repeat' split
  all_goals (first | exact q_mi_none | exact q_mi_go rfl rfl | exact q_mi_gop rfl rfl | exact q_mi_cal0 | exact q_mi_ret | exact q_mi_in (q_mi_go rfl rfl))
theorem q_mi_sa {i : Nat} : q_mi h (x_sa y pc i L M S h) := by
  unfold x_sa
  repeat' split
  all_goals (first | exact q_mi_none | exact q_mi_go rfl rfl | exact q_mi_gop rfl rfl | exact q_mi_cal0 | exact q_mi_ret | exact q_mi_in (q_mi_go rfl rfl))
theorem q_mi_sj {i : Nat} : q_mi h (x_sj y pc i L M S h) := by
  unfold x_sj
  repeat' split
  all_goals (first | exact q_mi_none | exact q_mi_go rfl rfl | exact q_mi_gop rfl rfl | exact q_mi_cal0 | exact q_mi_ret | exact q_mi_in (q_mi_go rfl rfl))
theorem q_mi_inc {i : Nat} {n : Int} : q_mi h (x_inc y pc i n L M S h) := by
  unfold x_inc
  repeat' split
  all_goals (first | exact q_mi_none | exact q_mi_go rfl rfl | exact q_mi_gop rfl rfl | exact q_mi_cal0 | exact q_mi_ret | exact q_mi_in (q_mi_go rfl rfl))
theorem q_mi_gf {a k q : Nat} : q_mi h (x_gf y pc L M S h a k q) := by
  unfold x_gf
  repeat' split
  all_goals (first | exact q_mi_none | exact q_mi_go rfl rfl | exact q_mi_gop rfl rfl | exact q_mi_cal0 | exact q_mi_ret | exact q_mi_in (q_mi_go rfl rfl))
theorem q_mi_iald {xs : Nat → Int32} {xl : Nat} : q_mi h (x_iald xs xl y pc L M S h) := by
  unfold x_iald
  repeat' split
  all_goals (first | exact q_mi_none | exact q_mi_go rfl rfl | exact q_mi_gop rfl rfl | exact q_mi_cal0 | exact q_mi_ret | exact q_mi_in (q_mi_go rfl rfl))
theorem q_mi_bald  : q_mi h (x_bald y pc L M S h) := by
  unfold x_bald
  repeat' split
  all_goals (first | exact q_mi_none | exact q_mi_go rfl rfl | exact q_mi_gop rfl rfl | exact q_mi_cal0 | exact q_mi_ret | exact q_mi_in (q_mi_go rfl rfl))
theorem q_mi_jald  : q_mi h (x_jald y pc L M S h) := by
  unfold x_jald
  repeat' split
  all_goals (first | exact q_mi_none | exact q_mi_go rfl rfl | exact q_mi_gop rfl rfl | exact q_mi_cal0 | exact q_mi_ret | exact q_mi_in (q_mi_go rfl rfl))
theorem q_mi_aald  : q_mi h (x_aald y pc L M S h) := by
  unfold x_aald
  repeat' split
  all_goals (first | exact q_mi_none | exact q_mi_go rfl rfl | exact q_mi_gop rfl rfl | exact q_mi_cal0 | exact q_mi_ret | exact q_mi_in (q_mi_go rfl rfl))
theorem q_mi_iast  : q_mi h (x_iast y pc L M S h) := by
  unfold x_iast
  repeat' split
  all_goals (first | exact q_mi_none | exact q_mi_go rfl rfl | exact q_mi_gop rfl rfl | exact q_mi_cal0 | exact q_mi_ret | exact q_mi_in (q_mi_go rfl rfl))
theorem q_mi_bast  : q_mi h (x_bast y pc L M S h) := by
  unfold x_bast
  repeat' split
  all_goals (first | exact q_mi_none | exact q_mi_go rfl rfl | exact q_mi_gop rfl rfl | exact q_mi_cal0 | exact q_mi_ret | exact q_mi_in (q_mi_go rfl rfl))
theorem q_mi_jast  : q_mi h (x_jast y pc L M S h) := by
  unfold x_jast
  repeat' split
  all_goals (first | exact q_mi_none | exact q_mi_go rfl rfl | exact q_mi_gop rfl rfl | exact q_mi_cal0 | exact q_mi_ret | exact q_mi_in (q_mi_go rfl rfl))
theorem q_mi_alen {xl : Nat} : q_mi h (x_alen xl y pc L M S h) := by
  unfold x_alen
  repeat' split
  all_goals (first | exact q_mi_none | exact q_mi_go rfl rfl | exact q_mi_gop rfl rfl | exact q_mi_cal0 | exact q_mi_ret | exact q_mi_in (q_mi_go rfl rfl))
theorem q_mi_newa {a : Nat} : q_mi h (x_newa y pc L M S h a) := by
  unfold x_newa
  repeat' split
  all_goals (first | exact q_mi_none | exact q_mi_go rfl rfl | exact q_mi_gop rfl rfl | exact q_mi_cal0 | exact q_mi_ret | exact q_mi_in (q_mi_go rfl rfl))
theorem q_mi_call {z n : Nat} : q_mi h (x_call y pc L M S h z n) := by
  unfold x_call
  repeat' split
  all_goals (first | exact q_mi_none | exact q_mi_go rfl rfl | exact q_mi_gop rfl rfl | exact q_mi_cal0 | exact q_mi_ret | exact q_mi_in (q_mi_go rfl rfl))
theorem q_mi_callv {z n : Nat} : q_mi h (x_callv y pc L M S h z n) := by
  unfold x_callv
  repeat' split
  all_goals (first | exact q_mi_none | exact q_mi_go rfl rfl | exact q_mi_gop rfl rfl | exact q_mi_cal0 | exact q_mi_ret | exact q_mi_in (q_mi_go rfl rfl))
theorem q_mi_calld {z n k : Nat} : q_mi h (x_calld y pc L M S h z n k) := by
  unfold x_calld
  repeat' split
  all_goals (first | exact q_mi_none | exact q_mi_go rfl rfl | exact q_mi_gop rfl rfl | exact q_mi_cal0 | exact q_mi_ret | exact q_mi_in (q_mi_go rfl rfl))
theorem q_mi_copy  : q_mi h (x_copy y pc L M S h) := by
  unfold x_copy
  repeat' split
  all_goals (first | exact q_mi_none | exact q_mi_go rfl rfl | exact q_mi_gop rfl rfl | exact q_mi_cal0 | exact q_mi_ret | exact q_mi_in (q_mi_go rfl rfl))
theorem q_mi_obi  : q_mi h (x_obi y pc L M S h) := by
  unfold x_obi
  repeat' split
  all_goals (first | exact q_mi_none | exact q_mi_go rfl rfl | exact q_mi_gop rfl rfl | exact q_mi_cal0 | exact q_mi_ret | exact q_mi_in (q_mi_go rfl rfl))
theorem q_mi_mth {fn : Int32 → Int32 → Int32} : q_mi h (x_mth y pc L M S h fn) := by
  unfold x_mth
  repeat' split
  all_goals (first | exact q_mi_none | exact q_mi_go rfl rfl | exact q_mi_gop rfl rfl | exact q_mi_cal0 | exact q_mi_ret | exact q_mi_in (q_mi_go rfl rfl))
theorem q_mi_mab  : q_mi h (x_mab y pc L M S h) := by
  unfold x_mab
  repeat' split
  all_goals (first | exact q_mi_none | exact q_mi_go rfl rfl | exact q_mi_gop rfl rfl | exact q_mi_cal0 | exact q_mi_ret | exact q_mi_in (q_mi_go rfl rfl))
theorem q_mi_iret  : q_mi h (x_iret y S h) := by
  unfold x_iret
  repeat' split
  all_goals (first | exact q_mi_none | exact q_mi_go rfl rfl | exact q_mi_gop rfl rfl | exact q_mi_cal0 | exact q_mi_ret | exact q_mi_in (q_mi_go rfl rfl))
theorem q_mi_jret  : q_mi h (x_jret S h) := by
  unfold x_jret
  repeat' split
  all_goals (first | exact q_mi_none | exact q_mi_go rfl rfl | exact q_mi_gop rfl rfl | exact q_mi_cal0 | exact q_mi_ret | exact q_mi_in (q_mi_go rfl rfl))
theorem q_mi_vret  : q_mi h (x_vret S h) := by
  unfold x_vret
  repeat' split
  all_goals (first | exact q_mi_none | exact q_mi_go rfl rfl | exact q_mi_gop rfl rfl | exact q_mi_cal0 | exact q_mi_ret | exact q_mi_in (q_mi_go rfl rfl))
theorem q_mi_br {c : ClassFile.Cond} {u v : Int32} {A B : Option x_O} (hA : q_mi h A) (hB : q_mi h B) : q_mi h (x_br c u v A B) := by
  unfold x_br
  repeat' split
  all_goals (first | exact hA | exact hB)
set_option maxHeartbeats 4000000 in
theorem q_mi_op {xs : Nat → Int32} {xl : Nat} {e : x_E} (hs : q_spc e.1 = false) : q_mi h (x_op xs xl y pc L M S h e) := by
  obtain ⟨ins, len, a, b, p, q⟩ := e
  cases ins <;> first
    | (cases hs; done)
    | exact q_mi_none
    | exact q_mi_go rfl rfl
    | (unfold x_op; dsimp only; (repeat' split); all_goals (first | exact q_mi_none | exact q_mi_go rfl rfl | exact q_mi_br (q_mi_go rfl rfl) (q_mi_go rfl rfl) | exact q_mi_psh | exact q_mi_jmp | exact q_mi_bin | exact q_mi_un | exact q_mi_lbin | exact q_mi_si | exact q_mi_sa | exact q_mi_sj | exact q_mi_inc | exact q_mi_gf | exact q_mi_iald | exact q_mi_bald | exact q_mi_jald | exact q_mi_aald | exact q_mi_iast | exact q_mi_bast | exact q_mi_jast | exact q_mi_alen | exact q_mi_newa | exact q_mi_call | exact q_mi_callv | exact q_mi_calld | exact q_mi_copy | exact q_mi_obi | exact q_mi_mth | exact q_mi_mab | exact q_mi_iret | exact q_mi_jret | exact q_mi_vret))
end XMI
/-- how many references may lie there -/
def q_kb (k : x_K) : Nat := match k with
  | .inl _ => 64
  | .inr (4, _) => 64
  | .inr _ => 0
def q_I (h : x_H) : Prop := ∀ a k, h.2.2.2 a k ≠ none → ∃ kd, x_at h.1 a = some kd ∧ k < q_kb kd
theorem x_at_lt {α : Type} {l : List α} {n : Nat} {a : α} (h : x_at l n = some a) : n < l.length := by
  rw [x_at_eq] at h
  exact (List.getElem?_eq_some_iff.mp h).1
theorem x_at_ap {α : Type} {l : List α} {n : Nat} {a k : α} (h : x_at l n = some a) : x_at (l ++ [k]) n = some a := by
  have := x_at_lt h
  rw [x_at_eq] at h ⊢
  rw [List.getElem?_append_left this]
  exact h
theorem q_I_k {h h' : x_H} (hi : q_I h) (hk : h'.1 = h.1 ∨ ∃ k, h'.1 = h.1 ++ [k]) (hr : h'.2.2.2 = h.2.2.2) : q_I h' := by
  intro a k hn
  rw [hr] at hn
  obtain ⟨kd, e1, e2⟩ := hi a k hn
  refine ⟨kd, ?_, e2⟩
  rcases hk with e | ⟨k', e⟩
  · rw [e]; exact e1
  · rw [e]; exact x_at_ap e1
theorem q_I_u {h : x_H} {o k : Nat} {v : Option Nat} {kd : x_K} {h' : x_H} (hi : q_I h) (hk : h'.1 = h.1) (hr : h'.2.2.2 = x_u2 h.2.2.2 o k v) (e : x_at h.1 o = some kd) (hb : k < q_kb kd) : q_I h' := by
  intro a j hn
  rw [hk]
  rw [hr] at hn
  unfold x_u2 at hn
  by_cases ea : a = o
  · subst ea
    rw [if_pos rfl] at hn
    by_cases ej : j = k
    · subst ej
      exact ⟨kd, e, hb⟩
    · rw [if_neg ej] at hn
      exact hi a j hn
  · rw [if_neg ea] at hn
    exact hi a j hn
theorem q_I_n {h : x_H} {kd : x_K} {h' : x_H} (hi : q_I h) (hk : h'.1 = h.1 ++ [kd]) (hr : h'.2.2.2 = x_u1 h.2.2.2 h.1.length (fun _ => none)) : q_I h' := by
  intro a j hn
  rw [hr] at hn
  unfold x_u1 at hn
  by_cases ea : a = h.1.length
  · rw [if_pos ea] at hn
    exact absurd rfl hn
  · rw [if_neg ea] at hn
    obtain ⟨kd', e1, e2⟩ := hi a j hn
    rw [hk]
    exact ⟨kd', x_at_ap e1, e2⟩
def q_gi (e : x_E) (S : List Value) : Bool := match e.1 with
  | .putfield _ => decide (e.2.2.2.1 < 64)
  | .aastore => (match S with
    | _ :: .int i :: _ => decide (i.toNatClampNeg < 64)
    | _ => false)
  | _ => true
def q_g (S : List Value) : Bool := match S with
  | .ref a :: _ => a != 100000
  | _ => true
def q_okf (f : x_F) : Bool := q_g f.2.2.2.2 && (match x_ins f.1 f.2.1 with
  | some e => q_gi e f.2.2.2.2
  | none => false)
theorem q_inv {y pc : Nat} {L : x_L} {M : x_J} {S : List Value} {h : x_H} {e : x_E} {xs : Nat → Int32} {xl : Nat} (g : q_gi e S = true) {f' : x_F} {h' : x_H} (hz : x_op xs xl y pc L M S h e = some (.inl (f', h'))) (hi : q_I h) : q_I h' := by
  by_cases hs : q_spc e.1 = false
  · obtain ⟨a, b⟩ := q_mi_op hs _ _ hz
    exact q_I_k hi a b
  · obtain ⟨ins, len, a, b, p, q⟩ := e
    cases ins <;> first
      | exact absurd rfl hs
      | skip
    · -- aastore
      have hz : x_aast y pc L M S h = some (.inl (f', h')) := hz
      unfold x_aast at hz
      split at hz
      · rename_i x i a' r hS
        split at hz
        · rename_i n har
          split at hz
          · unfold x_in? at hz
            split at hz
            · cases hz
            · cases hz
              have hk : x_at h.1 a' = some (.inr (4, n)) := by
                unfold x_ar x_kd at har
                split at har
                · rename_i q' hq
                  rw [hq, Option.some.inj har]
                · cases har
              refine q_I_u (v := some x) hi rfl rfl hk ?_
              have hb : i.toNatClampNeg < 64 := by
                unfold q_gi at g
                unfold x_rir at hS
                split at hS
                · cases hS
                  exact of_decide_eq_true g
                · cases hS
              exact hb
          · cases hz
        · cases hz
      · cases hz
    · -- anewarray
      have hz : x_newq y pc L M S h = some (.inl (f', h')) := hz
      unfold x_newq at hz
      repeat' split at hz
      all_goals first | (cases hz; done) | (cases hz; exact q_I_n hi rfl rfl)
    · -- new
      have hz : x_new y pc L M S h a = some (.inl (f', h')) := hz
      unfold x_new at hz
      split at hz
      · cases hz
        exact q_I_n hi rfl rfl
      · cases hz
    · -- putfield
      have hz : x_pf y pc L M S h a b q = some (.inl (f', h')) := hz
      have hb : b < 64 := of_decide_eq_true g
      unfold x_pf at hz
      split at hz
      · split at hz
        · rename_i v o r hS
          split at hz
          · rename_i hob
            split at hz
            · cases hz
              have hk : ∃ c, x_at h.1 o = some (.inl c) := by
                unfold x_ob x_kd at hob
                split at hob
                · rename_i c' hq
                  exact ⟨c', hq⟩
                · cases hob
              obtain ⟨c, hk⟩ := hk
              exact q_I_u (v := some v) hi rfl rfl hk hb
            · cases hz
          · cases hz
        · cases hz
      · repeat' split at hz
        all_goals first | (cases hz; done) | (cases hz; exact q_I_k hi (Or.inl rfl) rfl)
      · repeat' split at hz
        all_goals first | (cases hz; done) | (cases hz; exact q_I_k hi (Or.inl rfl) rfl)
abbrev q_xs : Nat → Int32 := fun _ => 0
theorem q_iald {y pc : Nat} {L : x_L} {M : x_J} {S : List Value} {h : x_H} {xs : Nat → Int32} {xl : Nat} {z : x_O} (hz : x_iald q_xs 0 y pc L M S h = some z) : x_iald xs xl y pc L M S h = some z := by
  unfold x_iald at hz ⊢
  split at hz
  · rename_i i a r hS
    split at hz
    · unfold x_in? at hz
      rw [if_pos (Or.inr (Nat.zero_le _))] at hz
      cases hz
    · exact hz
  · cases hz
theorem q_alen {y pc : Nat} {L : x_L} {M : x_J} {S : List Value} {h : x_H} {xl : Nat} {z : x_O} (g : q_g S = true) (hz : x_alen 0 y pc L M S h = some z) : x_alen xl y pc L M S h = some z := by
  unfold x_alen at hz ⊢
  split at hz
  · rename_i a r hS
    have ha : a ≠ 100000 := by
      intro e
      subst e
      unfold x_r1 at hS
      split at hS
      · cases hS
        unfold q_g at g
        simp at g
      · cases hS
    split at hz
    · exact absurd rfl ha
    · exact hz
    · exact hz
  · cases hz
set_option maxHeartbeats 4000000 in
theorem q_st_x {xs : Nat → Int32} {xl : Nat} {f : x_F} {h : x_H} {z : x_O} (g : q_okf f = true) (hz : x_st q_xs 0 f h = some z) : x_st xs xl f h = some z := by
  obtain ⟨y, pc, L, M, S⟩ := f
  unfold q_okf at g
  have g := (Bool.and_eq_true_iff.mp g).1
  unfold x_st at hz ⊢
  dsimp only at hz ⊢
  split at hz
  · rename_i e he
    split at hz
    · obtain ⟨ins, len, a, b, p, q⟩ := e
      cases ins <;> first
        | exact hz
        | exact q_iald hz
        | exact q_alen g hz
    · cases hz
  · cases hz
end
