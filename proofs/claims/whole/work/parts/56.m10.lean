section
/-! the reference: the row -/
variable {xs : Nat → Int32} {xl : Nat} {I J : w_I} {b : Bool} {Q : Option Value → w_I → w_I → Bool → Prop}
variable {s : Int → Int}
def p237 (a : Nat) (k : Int) : Bool := a == 126 || a == 127 || a == 128 || a == 129 || a == 130 || a == 131 || (a == 104 && k == 36)
/-- does the place i come behind who is put in -/
abbrev m_gt (key house k h : Int) : Prop := key < k ∨ (k = key ∧ 0 ≤ house ∧ house < h)
theorem s237 {n f key house y q l : Int} (hn : I 104 36 = n) (hb : 0 ≤ n ∧ n < 32) (hk : w_in key) (hh : w_in house) (hr : ∀ i, 0 ≤ i → i < n → w_in (I 127 i) ∧ w_in (I 128 i))
    (k : ∀ p I', w_fr p237 I I' → I' 104 36 = n + 1 → 0 ≤ p → p ≤ n → (∀ i, 0 ≤ i → i ≤ n → I' 126 i = r_insf p f (I 126) i ∧ I' 127 i = r_insf p key (I 127) i ∧ I' 128 i = r_insf p house (I 128) i ∧ I' 129 i = r_insf p y (I 129) i ∧ I' 130 i = r_insf p q (I 130) i ∧ I' 131 i = r_insf p l (I 131) i) →
      (∀ i, p ≤ i → i < n → m_gt key house (I 127 i) (I 128 i)) → (0 < p → ¬ m_gt key house (I 127 (p - 1)) (I 128 (p - 1))) → Q none I' J b) : w_C xs xl 237 [.ref 104, w_i f, w_i key, w_i house, w_i y, w_i q, w_i l] I J b Q := by
  refine e237 (b237_0 ?_)
  rw [hn]
  have loop : ∀ (m : Nat) (p : Int) (I1 : w_I), p = m → p ≤ n → w_fr p237 I I1 → I1 104 36 = n → (∀ i, 0 ≤ i → i < p → I1 126 i = I 126 i ∧ I1 127 i = I 127 i ∧ I1 128 i = I 128 i ∧ I1 129 i = I 129 i ∧ I1 130 i = I 130 i ∧ I1 131 i = I 131 i) → (∀ i, p < i → i ≤ n → I1 126 i = I 126 (i - 1) ∧ I1 127 i = I 127 (i - 1) ∧ I1 128 i = I 128 (i - 1) ∧ I1 129 i = I 129 (i - 1) ∧ I1 130 i = I 130 (i - 1) ∧ I1 131 i = I 131 (i - 1)) → (∀ i, p ≤ i → i < n → m_gt key house (I 127 i) (I 128 i)) →
      w_T xs xl 237 6 [some (.ref 104), some (w_i f), some (w_i key), some (w_i house), some (w_i y), some (w_i q), some (w_i l), some (w_i p)] [] [] I1 J b Q := by
    intro m
    have fin : ∀ (p : Int) (I1 : w_I), 0 ≤ p → p ≤ n → w_fr p237 I I1 → I1 104 36 = n → (∀ i, 0 ≤ i → i < p → I1 126 i = I 126 i ∧ I1 127 i = I 127 i ∧ I1 128 i = I 128 i ∧ I1 129 i = I 129 i ∧ I1 130 i = I 130 i ∧ I1 131 i = I 131 i) → (∀ i, p < i → i ≤ n → I1 126 i = I 126 (i - 1) ∧ I1 127 i = I 127 (i - 1) ∧ I1 128 i = I 128 (i - 1) ∧ I1 129 i = I 129 (i - 1) ∧ I1 130 i = I 130 (i - 1) ∧ I1 131 i = I 131 (i - 1)) → (∀ i, p ≤ i → i < n → m_gt key house (I 127 i) (I 128 i)) → (0 < p → ¬ m_gt key house (I 127 (p - 1)) (I 128 (p - 1))) →
        Q none (w_U (w_U (w_U (w_U (w_U (w_U (w_U I1 126 p f) 127 p key) 128 p house) 129 p y) 130 p q) 131 p l) 104 36 (n + 1)) J b := by
      intro p I1 hp0 a1 a2 a3 a4 a5 a6 a7
      refine k p _ (w_frU (w_frU (w_frU (w_frU (w_frU (w_frU (w_frU a2 rfl) rfl) rfl) rfl) rfl) rfl) rfl) (by rw [w_Ug, if_pos rfl, if_pos rfl]) hp0 a1 (fun i x z => ?_) a6 a7
      unfold r_insf
      simp only [w_Ug, reduceIte, Nat.reduceEqDiff]
      by_cases c1 : i < p
      · simp only [if_neg (show ¬ i = p by omega), if_pos c1]; exact a4 i x c1
      · by_cases c2 : i = p
        · simp only [if_pos c2, if_neg c1]; exact ⟨trivial, trivial, trivial, trivial, trivial, trivial⟩
        · simp only [if_neg c2, if_neg c1]; exact a5 i (by omega) z
    induction m with
    | zero =>
      intro p I1 a0 a1 a2 a3 a4 a5 a6
      have ff := fin p I1 (by omega) a1 a2 a3 a4 a5 a6 (fun x => by omega)
      refine b237_6 ?_
      try simp only [w_Ug, reduceIte, Nat.reduceEqDiff, Int.reduceEq, eq_self, a3]
      repeat' (first | apply And.intro | intro)
      all_goals (try first | omega | contradiction | exact Or.inl trivial | exact Or.inr trivial)
    | succ m ih =>
      intro p I1 a0 a1 a2 a3 a4 a5 a6
      obtain ⟨z1, z2, z3, z4, z5, z6⟩ := a4 (p - 1) (by omega) (by omega)
      obtain ⟨r1, r2⟩ := hr (p - 1) (by omega) (by omega)
      have ff := fun h => fin p I1 (by omega) a1 a2 a3 a4 a5 a6 (fun _ => h)
      have go : m_gt key house (I 127 (p - 1)) (I 128 (p - 1)) → w_T xs xl 237 6 [some (.ref 104), some (w_i f), some (w_i key), some (w_i house), some (w_i y), some (w_i q), some (w_i l), some (w_i (p + -1))] [] [] (w_U (w_U (w_U (w_U (w_U (w_U I1 126 p (I 126 (p - 1))) 127 p (I 127 (p - 1))) 128 p (I 128 (p - 1))) 129 p (I 129 (p - 1))) 130 p (I 130 (p - 1))) 131 p (I 131 (p - 1))) J b Q := by
        intro hg
        refine ih (p + -1) _ (by omega) (by omega) (w_frU (w_frU (w_frU (w_frU (w_frU (w_frU a2 rfl) rfl) rfl) rfl) rfl) rfl) a3 (fun i x z => ?_) (fun i x z => ?_) (fun i x z => ?_)
        · simp only [w_Ug, reduceIte, Nat.reduceEqDiff, if_neg (show ¬ i = p by omega)]
          exact a4 i x (by omega)
        · simp only [w_Ug, reduceIte, Nat.reduceEqDiff]
          by_cases e : i = p
          · subst e; simp only [if_true]; exact ⟨trivial, trivial, trivial, trivial, trivial, trivial⟩
          · simp only [if_neg e]; exact a5 i (by omega) z
        · by_cases e : i = p - 1
          · subst e; exact hg
          · exact a6 i (by omega) z
      refine b237_6 ?_
      try simp only [w_Ug, reduceIte, Nat.reduceEqDiff, Int.reduceEq, eq_self, a3, z1, z2, z3, z4, z5, z6]
      repeat' (first | apply And.intro | intro)
      all_goals (try first | omega | contradiction | exact Or.inl trivial | exact Or.inr trivial)
      all_goals first | exact go (by omega) | exact ff (by omega)
  exact loop n.toNat n I (by omega) (Int.le_refl _) w_frr hn (fun _ _ _ => ⟨rfl, rfl, rfl, rfl, rfl, rfl⟩) (fun i x z => by omega) (fun i x z => by omega)
end
