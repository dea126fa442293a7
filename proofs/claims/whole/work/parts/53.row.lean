section
/-! a row: a sequence in the order of its ranks; it is the only one -/
def r_ok (n : Int) (r : Int → Int) (S : Int → Prop) (rk : Int → Int) : Prop := 0 ≤ n ∧ (∀ i, 0 ≤ i → i < n → S (r i)) ∧ (∀ f, S f → ∃ i, 0 ≤ i ∧ i < n ∧ r i = f) ∧ (∀ i j, 0 ≤ i → i < j → j < n → rk (r i) < rk (r j))
theorem r_same {n n' : Int} {r r' : Int → Int} {S : Int → Prop} {rk : Int → Int} (h : r_ok n r S rk) (h' : r_ok n' r' S rk) (inj : ∀ f g, S f → S g → rk f = rk g → f = g) : ∀ k : Nat, (k : Int) ≤ n → (k : Int) ≤ n' → ∀ i : Int, 0 ≤ i → i < k → r i = r' i := by
  intro k
  induction k with
  | zero => intro _ _ i h0 h1; omega
  | succ k ih =>
    intro hn hn' i h0 h1
    by_cases hi : i < k
    · exact ih (by omega) (by omega) i h0 hi
    · have e : i = k := by omega
      subst e
      have ih := ih (by omega) (by omega)
      obtain ⟨a0, a1, a2, a3⟩ := h
      obtain ⟨b0, b1, b2, b3⟩ := h'
      have s1 := a1 k (by omega) (by omega)
      have s2 := b1 k (by omega) (by omega)
      obtain ⟨j, j0, j1, j2⟩ := b2 _ s1
      obtain ⟨l, l0, l1, l2⟩ := a2 _ s2
      have hj : (k : Int) ≤ j := by
        apply Decidable.byContradiction
        intro hc
        have := ih j j0 (by omega)
        have := a3 j k j0 (by omega) (by omega)
        rw [ih j j0 (by omega), j2] at this
        omega
      have hl : (k : Int) ≤ l := by
        apply Decidable.byContradiction
        intro hc
        have := b3 l k l0 (by omega) (by omega)
        rw [← ih l l0 (by omega), l2] at this
        omega
      have c1 : rk (r' k) ≤ rk (r k) := by
        by_cases x : j = k
        · rw [← j2, x]; omega
        · have := b3 k j (by omega) (by omega) j1
          rw [j2] at this
          omega
      have c2 : rk (r k) ≤ rk (r' k) := by
        by_cases x : l = k
        · rw [← l2, x]; omega
        · have := a3 k l (by omega) (by omega) l1
          rw [l2] at this
          omega
      exact inj _ _ s1 s2 (by omega)
theorem r_uniq {n n' : Int} {r r' : Int → Int} {S : Int → Prop} {rk : Int → Int} (h : r_ok n r S rk) (h' : r_ok n' r' S rk) (inj : ∀ f g, S f → S g → rk f = rk g → f = g) : n = n' ∧ ∀ i, 0 ≤ i → i < n → r i = r' i := by
  have key : ∀ {n n' : Int} {r r' : Int → Int}, r_ok n r S rk → r_ok n' r' S rk → ¬ n < n' := by
    intro n n' r r' h h' hlt
    have sm := r_same h h' inj n.toNat (by have := h.1; omega) (by have := h.1; omega)
    have h0 := h.1
    obtain ⟨i, i0, i1, i2⟩ := h.2.2.1 _ (h'.2.1 n h.1 hlt)
    have := h'.2.2.2 i n i0 i1 hlt
    rw [← sm i i0 (by omega), i2] at this
    omega
  have e : n = n' := by
    have := key h h'
    have := key h' h
    omega
  refine ⟨e, fun i h0 h1 => ?_⟩
  have hn := h.1
  exact r_same h h' inj n.toNat (by omega) (by omega) i h0 (by omega)
def r_insf (p x : Int) (r : Int → Int) : Int → Int := fun i => if i < p then r i else if i = p then x else r (i - 1)
theorem r_ins {n p x : Int} {r : Int → Int} {S : Int → Prop} {rk : Int → Int} (h : r_ok n r S rk) (hp : 0 ≤ p ∧ p ≤ n) (lo : ∀ i, 0 ≤ i → i < p → rk (r i) < rk x) (hi : ∀ i, p ≤ i → i < n → rk x < rk (r i)) : r_ok (n + 1) (r_insf p x r) (fun f => S f ∨ f = x) rk := by
  obtain ⟨a0, a1, a2, a3⟩ := h
  refine ⟨by omega, fun i h0 h1 => ?_, fun f hf => ?_, fun i j h0 h1 h2 => ?_⟩
  · show S (r_insf p x r i) ∨ r_insf p x r i = x
    unfold r_insf
    split
    · exact Or.inl (a1 i h0 (by omega))
    · split
      · exact Or.inr rfl
      · exact Or.inl (a1 (i - 1) (by omega) (by omega))
  · rcases hf with hf | hf
    · obtain ⟨i, i0, i1, i2⟩ := a2 f hf
      by_cases c : i < p
      · exact ⟨i, i0, by omega, by unfold r_insf; rw [if_pos c]; exact i2⟩
      · refine ⟨i + 1, by omega, by omega, ?_⟩
        unfold r_insf
        rw [if_neg (by omega), if_neg (by omega), show i + 1 - 1 = i by omega]
        exact i2
    · refine ⟨p, hp.1, by omega, ?_⟩
      unfold r_insf
      rw [if_neg (by omega), if_pos rfl]
      exact hf.symm
  · unfold r_insf
    by_cases c1 : i < p
    · rw [if_pos c1]
      by_cases c2 : j < p
      · rw [if_pos c2]; exact a3 i j h0 h1 (by omega)
      · rw [if_neg c2]
        by_cases c3 : j = p
        · rw [if_pos c3]; exact lo i h0 c1
        · rw [if_neg c3]; exact a3 i (j - 1) h0 (by omega) (by omega)
    · rw [if_neg c1, if_neg (show ¬ j < p by omega), if_neg (show ¬ j = p by omega)]
      by_cases c3 : i = p
      · rw [if_pos c3]; exact hi (j - 1) (by omega) (by omega)
      · rw [if_neg c3]; exact a3 (i - 1) (j - 1) (by omega) (by omega) (by omega)
theorem r_ext {n : Int} {r r' : Int → Int} {S S' : Int → Prop} {rk : Int → Int} (h : r_ok n r S rk) (hr : ∀ i, 0 ≤ i → i < n → r' i = r i) (hS : ∀ f, S f ↔ S' f) : r_ok n r' S' rk := by
  obtain ⟨a0, a1, a2, a3⟩ := h
  refine ⟨a0, fun i h0 h1 => by rw [hr i h0 h1]; exact (hS _).mp (a1 i h0 h1), fun f hf => ?_, fun i j h0 h1 h2 => ?_⟩
  · obtain ⟨i, i0, i1, i2⟩ := a2 f ((hS f).mpr hf)
    exact ⟨i, i0, i1, by rw [hr i i0 i1]; exact i2⟩
  · rw [hr i h0 (by omega), hr j (by omega) h2]
    exact a3 i j h0 h1 h2
theorem r_nil {r : Int → Int} {S : Int → Prop} {rk : Int → Int} (hS : ∀ f, ¬ S f) : r_ok 0 r S rk := ⟨by omega, fun i h0 h1 => by omega, fun f hf => absurd hf (hS f), fun i j h0 h1 h2 => by omega⟩
end
