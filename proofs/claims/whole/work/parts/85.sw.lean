section
/-! the two tables change places -/
set_option maxRecDepth 100000 in
theorem w_At_o : ∀ a : Nat, a ≠ 93 → x_at (w_At true) a = x_at (w_At false) a := by
  have h : ∀ a : Fin 150, a.1 ≠ 93 → x_at (w_At true) a.1 = x_at (w_At false) a.1 := by decide
  have e : ∀ (l : List (List (Option Nat))) (n : Nat), l.length ≤ n → x_at l n = none := by
    intro l
    induction l with
    | nil => intro n _; cases n <;> rfl
    | cons x l ih =>
      intro n hn
      cases n with
      | zero => exact absurd hn (by simp)
      | succ n => exact ih n (by simpa using hn)
  intro a ha
  by_cases c : a < 150
  · exact h ⟨a, c⟩ ha
  · rw [e _ a (Nat.le_trans (by decide) (Nat.le_of_not_lt c)), e _ a (Nat.le_trans (by decide) (Nat.le_of_not_lt c))]
theorem w_A_sw (b : Bool) : x_u2 (x_u2 (w_A b) 93 6 (some (bif b then 98 else 99))) 93 7 (some (bif b then 99 else 98)) = w_A (!b) := by
  funext a k
  by_cases h : a = 93
  · subst h
    unfold x_u2
    rw [if_pos rfl]
    try dsimp only
    rw [if_pos rfl]
    cases b <;> (match k with
      | 0 => rfl
      | 1 => rfl
      | 2 => rfl
      | 3 => rfl
      | 4 => rfl
      | 5 => rfl
      | 6 => rfl
      | 7 => rfl
      | k + 8 => rfl)
  · unfold x_u2
    rw [if_neg h, if_neg h]
    unfold w_A
    cases b
    · rw [← w_At_o a h]; rfl
    · rw [w_At_o a h]; rfl
theorem b110_241 {xs : Nat → Int32} {xl : Nat} {I J : w_I} {b : Bool} {Q : Option Value → w_I → w_I → Bool → Prop} {l1 l2 l3 l4 : Int} {u5 u6 : Option Value} (k : Q none I J (!b)) : w_T xs xl 110 241 [some (.ref 93), some (w_i l1), some (w_i l2), some (w_i l3), some (w_i l4), u5, u6] [] [] I J b Q := by
  refine w_aload_n (q := 242) rfl rfl rfl ?_
  refine w_gfr (q := 245) rfl rfl rfl rfl (j := bif b then 99 else 98) (by cases b <;> rfl) ?_
  refine w_astore (q := 247) (r := bif b then 99 else 98) (L' := [some (.ref 93), some (w_i l1), some (w_i l2), some (w_i l3), some (.ref (bif b then 99 else 98)), u5, u6]) (M' := []) rfl rfl rfl (by cases b <;> rfl) rfl rfl ?_
  refine w_aload_n (q := 248) rfl rfl rfl ?_
  refine w_aload_n (q := 249) rfl rfl rfl ?_
  refine w_gfr (q := 252) rfl rfl rfl rfl (j := bif b then 98 else 99) (by cases b <;> rfl) ?_
  have t : w_T xs xl 110 261 [some (.ref 93), some (w_i l1), some (w_i l2), some (w_i l3), some (.ref (bif b then 99 else 98)), u5, u6] [] [] I J (!b) Q := by
    exact w_vret rfl k
  obtain ⟨n, v, I1, J1, b1, he, hq⟩ := t
  rw [← w_A_sw b] at he
  refine ⟨n + 4, v, I1, J1, b1, ?_, hq⟩
  show x_ex xs xl (n + 3 + 1) _ _ = _
  cases b
  · unfold x_ex
    rw [w_st (r := some (.inl ((110, 255, [some (.ref 93), some (w_i l1), some (w_i l2), some (w_i l3), some (.ref 98), u5, u6], [], []), (w_K, w_h I, w_hj J, x_u2 (w_A false) 93 6 (some 99))))) rfl rfl rfl]
    show x_ex xs xl (n + 2 + 1) _ _ = _
    unfold x_ex
    rw [w_st (r := some (.inl ((110, 256, [some (.ref 93), some (w_i l1), some (w_i l2), some (w_i l3), some (.ref 98), u5, u6], [], [.ref 93]), (w_K, w_h I, w_hj J, x_u2 (w_A false) 93 6 (some 99))))) rfl rfl rfl]
    show x_ex xs xl (n + 1 + 1) _ _ = _
    unfold x_ex
    rw [w_st (r := some (.inl ((110, 258, [some (.ref 93), some (w_i l1), some (w_i l2), some (w_i l3), some (.ref 98), u5, u6], [], [.ref 98, .ref 93]), (w_K, w_h I, w_hj J, x_u2 (w_A false) 93 6 (some 99))))) rfl rfl rfl]
    show x_ex xs xl (n + 1) _ _ = _
    unfold x_ex
    rw [w_st (r := some (.inl ((110, 261, [some (.ref 93), some (w_i l1), some (w_i l2), some (w_i l3), some (.ref 98), u5, u6], [], []), (w_K, w_h I, w_hj J, x_u2 (x_u2 (w_A false) 93 6 (some 99)) 93 7 (some 98))))) rfl rfl rfl]
    exact he
  · unfold x_ex
    rw [w_st (r := some (.inl ((110, 255, [some (.ref 93), some (w_i l1), some (w_i l2), some (w_i l3), some (.ref 99), u5, u6], [], []), (w_K, w_h I, w_hj J, x_u2 (w_A true) 93 6 (some 98))))) rfl rfl rfl]
    show x_ex xs xl (n + 2 + 1) _ _ = _
    unfold x_ex
    rw [w_st (r := some (.inl ((110, 256, [some (.ref 93), some (w_i l1), some (w_i l2), some (w_i l3), some (.ref 99), u5, u6], [], [.ref 93]), (w_K, w_h I, w_hj J, x_u2 (w_A true) 93 6 (some 98))))) rfl rfl rfl]
    show x_ex xs xl (n + 1 + 1) _ _ = _
    unfold x_ex
    rw [w_st (r := some (.inl ((110, 258, [some (.ref 93), some (w_i l1), some (w_i l2), some (w_i l3), some (.ref 99), u5, u6], [], [.ref 99, .ref 93]), (w_K, w_h I, w_hj J, x_u2 (w_A true) 93 6 (some 98))))) rfl rfl rfl]
    show x_ex xs xl (n + 1) _ _ = _
    unfold x_ex
    rw [w_st (r := some (.inl ((110, 261, [some (.ref 93), some (w_i l1), some (w_i l2), some (w_i l3), some (.ref 99), u5, u6], [], []), (w_K, w_h I, w_hj J, x_u2 (x_u2 (w_A true) 93 6 (some 98)) 93 7 (some 99))))) rfl rfl rfl]
    exact he
end
