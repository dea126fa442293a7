section
/-! the class: the row -/
variable {xs : Nat → Int32} {xl : Nat} {I J : w_I} {b : Bool} {Q : Option Value → w_I → w_I → Bool → Prop}
variable {s : Int → Int}
def p24 (a : Nat) (k : Int) : Bool := a == 84 || (a == 78 && k == 6)
theorem c24 {n f : Int} {S : Int → Prop} {kf ps : Int → Int} (hn : I 78 6 = n) (hn2 : n ≤ 24) (hr : r_ok n (I 84) S (fun g => kf g * 2000 + ps g)) (hS : ∀ g, S g → (0 ≤ g ∧ g < 30) ∧ I 83 g = kf g ∧ (0 ≤ kf g ∧ kf g < 1000) ∧ 0 ≤ ps g ∧ ps g < ps f) (hf : 0 ≤ f ∧ f < 30) (hk : I 83 f = kf f ∧ 0 ≤ kf f ∧ kf f < 1000) (hp : ps f ≤ 1000)
    (k : ∀ I', w_fr p24 I I' → I' 78 6 = n + 1 → r_ok (n + 1) (I' 84) (fun g => S g ∨ g = f) (fun g => kf g * 2000 + ps g) → Q none I' J b) : w_C xs xl 24 [.ref 78, w_i f] I J b Q := by
  have h0 := hr.1
  refine e24 (b24_0 ?_)
  rw [hn]
  have loop : ∀ (m : Nat) (p : Int) (I1 : w_I), p = m → p ≤ n → w_fr p24 I I1 → I1 78 6 = n → (∀ i, 0 ≤ i → i < p → I1 84 i = I 84 i) → (∀ i, p < i → i ≤ n → I1 84 i = I 84 (i - 1)) → (∀ i, p ≤ i → i < n → kf f < kf (I 84 i)) →
      w_T xs xl 24 5 [some (.ref 78), some (w_i f), some (w_i p)] [] [] I1 J b Q := by
    intro m
    have fin : ∀ (p : Int) (I1 : w_I), 0 ≤ p → p ≤ n → w_fr p24 I I1 → I1 78 6 = n → (∀ i, 0 ≤ i → i < p → I1 84 i = I 84 i) → (∀ i, p < i → i ≤ n → I1 84 i = I 84 (i - 1)) → (∀ i, p ≤ i → i < n → kf f < kf (I 84 i)) → (∀ i, 0 ≤ i → i < p → kf (I 84 i) ≤ kf f) → Q none (w_U (w_U I1 84 p f) 78 6 (n + 1)) J b := by
      intro p I1 hp0 a1 a2 a3 a4 a5 a6 a7
      refine k _ (w_frU (w_frU a2 rfl) rfl) (by rw [w_Ug, if_pos rfl, if_pos rfl]) ?_
      refine r_ext (r_ins hr (p := p) (x := f) ⟨hp0, a1⟩ (fun i x y => ?_) (fun i x y => ?_)) (fun i x y => ?_) (fun g => Iff.rfl)
      · have := a7 i x y
        have := hS _ (hr.2.1 i x (by omega))
        try dsimp only
        omega
      · have := a6 i x y
        have := hS _ (hr.2.1 i (by omega) y)
        try dsimp only
        omega
      · unfold r_insf
        simp only [w_Ug, reduceIte, Nat.reduceEqDiff]
        by_cases c1 : i < p
        · rw [if_neg (by omega), if_pos c1]; exact a4 i x c1
        · by_cases c2 : i = p
          · rw [if_pos c2, if_neg c1, if_pos c2]
          · rw [if_neg c2, if_neg c1, if_neg c2]; exact a5 i (by omega) (by omega)
    induction m with
    | zero =>
      intro p I1 a0 a1 a2 a3 a4 a5 a6
      have ff := fin p I1 (by omega) a1 a2 a3 a4 a5 a6 (fun i x y => by omega)
      refine b24_5 ?_
      try simp only [w_Ug, reduceIte, Nat.reduceEqDiff, Int.reduceEq, eq_self, a3]
      repeat' (first | apply And.intro | intro)
      all_goals (try first | omega | contradiction | exact Or.inl trivial | exact Or.inr trivial)
    | succ m ih =>
      intro p I1 a0 a1 a2 a3 a4 a5 a6
      have e84 : I1 84 (p - 1) = I 84 (p - 1) := a4 (p - 1) (by omega) (by omega)
      have e83 : I1 83 = I 83 := w_frA a2 (fun _ => rfl)
      obtain ⟨q1, q2, q3, q4⟩ := hS _ (hr.2.1 (p - 1) (by omega) (by omega))
      have hk1 := hk.1
      refine b24_5 ?_
      try simp only [w_Ug, reduceIte, Nat.reduceEqDiff, Int.reduceEq, eq_self, a3, e84, e83, q2, hk1]
      repeat' (first | apply And.intro | intro)
      all_goals (try first | omega | contradiction | exact Or.inl trivial | exact Or.inr trivial)
      · rename_i c
        refine fin p I1 (by omega) a1 a2 a3 a4 a5 a6 (fun i x y => ?_)
        by_cases e : i = p - 1
        · subst e; exact c
        · have := hr.2.2.2 i (p - 1) x (by omega) (by omega)
          obtain ⟨z1, z2, z3, z4⟩ := hS _ (hr.2.1 i x (by omega))
          dsimp only at this
          omega
      · rename_i c
        refine ih (p + -1) _ (by omega) (by omega) (w_frU a2 rfl) a3 (fun i x y => ?_) (fun i x y => ?_) (fun i x y => ?_)
        · rw [w_Ug, if_pos rfl, if_neg (by omega)]; exact a4 i x (by omega)
        · rw [w_Ug, if_pos rfl]
          by_cases e : i = p
          · rw [if_pos e, e]
          · rw [if_neg e]; exact a5 i (by omega) y
        · by_cases e : i = p - 1
          · subst e; omega
          · exact a6 i (by omega) y
  exact loop n.toNat n I (by omega) (Int.le_refl _) w_frr hn (fun _ _ _ => rfl) (fun i x y => by omega) (fun i x y => by omega)
end
