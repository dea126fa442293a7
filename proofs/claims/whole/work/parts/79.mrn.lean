section
/-! told moves judged: the picture; the class -/
variable {xs : Nat → Int32} {xl : Nat} {I J : w_I} {b : Bool} {Q : Option Value → w_I → w_I → Bool → Prop}
variable {s : Int → Int}
noncomputable def m_U (F : m_F) (s : Int → Int) (t by' a d : Int) : Bool := @decide (m_unl F s t by' a d) (Classical.propDecidable _)
theorem m_U_iff {F : m_F} {t by' a d : Int} : m_U F s t by' a d = true ↔ m_unl F s t by' a d := by
  unfold m_U
  exact @decide_eq_true_iff _ (Classical.propDecidable _)
noncomputable def m_any (F : m_F) (s : Int → Int) : Int := (u_scan (m_U F s 0 (s 3)) (s 0) (-1) 700 0 1 0).2
theorem u_scan_any {U : Int → Int → Bool} {H : Int} : ∀ (f : Nat) (a d : Int), 0 ≤ a → 0 ≤ d → ((u_scan U H 0 f a d 0).1 = -1 ↔ (u_scan U H (-1) f a d 0).2 = 0) ∧ w_in (u_scan U H 0 f a d 0).1 = w_in (u_scan U H 0 f a d 0).1
  | 0, a, d, _, _ => ⟨⟨fun _ => rfl, fun _ => rfl⟩, rfl⟩
  | f + 1, a, d, ha, hd => by
    refine ⟨?_, rfl⟩
    have e1 : u_scan U H 0 (f + 1) a d 0 = (if d < H then (if U a d then (if (0 : Int) = 0 then (100 * a + d, 0) else u_scan U H 0 f a (d + 1) (0 + 1)) else u_scan U H 0 f a (d + 1) 0) else if a + 1 < H then u_scan U H 0 f (a + 1) (a + 2) 0 else (-1, 0)) := rfl
    have e2 : u_scan U H (-1) (f + 1) a d 0 = (if d < H then (if U a d then (if (0 : Int) = -1 then (100 * a + d, 0) else u_scan U H (-1) f a (d + 1) (0 + 1)) else u_scan U H (-1) f a (d + 1) 0) else if a + 1 < H then u_scan U H (-1) f (a + 1) (a + 2) 0 else (-1, 0)) := rfl
    rw [e1, e2]
    by_cases c1 : d < H
    · rw [if_pos c1, if_pos c1]
      cases hu : U a d
      · rw [if_neg (by decide), if_neg (by decide)]
        exact (u_scan_any f a (d + 1) ha (by omega)).1
      · rw [if_pos rfl, if_pos rfl, if_pos rfl, if_neg (by decide)]
        have := u_scan_b (U := U) (H := H) (i := -1) f a (d + 1) (0 + 1)
        try dsimp only
        constructor
        · intro x; omega
        · intro x; omega
    · rw [if_neg c1, if_neg c1]
      by_cases c2 : a + 1 < H
      · rw [if_pos c2, if_pos c2]
        exact (u_scan_any f (a + 1) (a + 2) (by omega) (by omega)).1
      · rw [if_neg c2, if_neg c2]
        exact ⟨fun _ => rfl, fun _ => rfl⟩
theorem u_scan_in {U : Int → Int → Bool} {H i : Int} (hH : H ≤ 24) : ∀ (f : Nat) (a d n : Int), 0 ≤ a → a < 24 → 0 ≤ d → -1 ≤ (u_scan U H i f a d n).1 ∧ (u_scan U H i f a d n).1 ≤ 10000
  | 0, a, d, n, _, _, _ => by
    show -1 ≤ (-1 : Int) ∧ (-1 : Int) ≤ 10000
    omega
  | f + 1, a, d, n, ha, ha', hd => by
    unfold u_scan
    have h1 := u_scan_in (U := U) (H := H) (i := i) hH f a (d + 1) (n + 1) ha ha' (by omega)
    have h2 := u_scan_in (U := U) (H := H) (i := i) hH f a (d + 1) n ha ha' (by omega)
    by_cases c1 : d < H
    · rw [if_pos c1]
      split
      · split
        · dsimp only; omega
        · exact h1
      · exact h2
    · rw [if_neg c1]
      by_cases c2 : a + 1 < H
      · rw [if_pos c2]
        exact u_scan_in hH f (a + 1) (a + 2) n (by omega) (by omega) (by omega)
      · rw [if_neg c2]
        omega
theorem m_any_b {F : m_F} : 0 ≤ m_any F s ∧ m_any F s ≤ 700 := by
  have := u_scan_b (U := m_U F s 0 (s 3)) (H := s 0) (i := -1) 700 0 1 0
  unfold m_any
  omega
/-- a family's cost to a house -/
def m_fcost (F : m_F) (s : Int → Int) (f h : Int) : Int := m_cost F s (m_ga s f) (m_gs s f) (m_gl s f) (m_hm s f) h
abbrev j_e (s E : Int → Int) (m : Int) : Int → Int := u1 E (460 + 3 * s (550 + 3 * m + 1) + 1) (s (550 + 3 * m + 2))
abbrev j_c (F : m_F) (s E : Int → Int) (m : Int) : Int := m_fcost F E (s (550 + 3 * m + 1)) (s (550 + 3 * m + 2))
noncomputable def j_P (F : m_F) (s o : Int → Int) : Nat → Int → (Int → Int) → Int → Int → Int × (Int → Int) × Int
  | 0, _, E, _, c => (0, E, c)
  | k + 1, i, E, on, c => if ¬ (m_isF E (s (550 + 3 * o i + 1)) ∧ 0 ≤ E (460 + 3 * s (550 + 3 * o i + 1) + 1)) then (10 * o i + 1, E, c)
    else if E 2 ≤ on then (10 * o i + 2, E, c)
    else if 0 ≤ m_dw E (s (550 + 3 * o i + 2)) then (10 * o i + 3, E, c)
    else if i + 1 < s 10 ∧ s (550 + 3 * o (i + 1)) = s (550 + 3 * o i) then j_P F s o k (i + 1) (j_e s E (o i)) (on + 1) (c + j_c F s E (o i))
    else if 0 < m_any F (j_e s E (o i)) then (10 * o i + 4, j_e s E (o i), c + j_c F s E (o i)) else j_P F s o k (i + 1) (j_e s E (o i)) 0 (c + j_c F s E (o i))
theorem j_P_s {F : m_F} {o : Int → Int} {k : Nat} {i on c : Int} {E : Int → Int} : j_P F s o (k + 1) i E on c = if ¬ (m_isF E (s (550 + 3 * o i + 1)) ∧ 0 ≤ E (460 + 3 * s (550 + 3 * o i + 1) + 1)) then (10 * o i + 1, E, c)
    else if E 2 ≤ on then (10 * o i + 2, E, c)
    else if 0 ≤ m_dw E (s (550 + 3 * o i + 2)) then (10 * o i + 3, E, c)
    else if i + 1 < s 10 ∧ s (550 + 3 * o (i + 1)) = s (550 + 3 * o i) then j_P F s o k (i + 1) (j_e s E (o i)) (on + 1) (c + j_c F s E (o i))
    else if 0 < m_any F (j_e s E (o i)) then (10 * o i + 4, j_e s E (o i), c + j_c F s E (o i)) else j_P F s o k (i + 1) (j_e s E (o i)) 0 (c + j_c F s E (o i)) := rfl
/-- the order of the moves -/
abbrev j_S (s : Int → Int) (m : Int) : Prop := 0 ≤ m ∧ m < s 10
abbrev j_rk (s : Int → Int) (m : Int) : Int := s (550 + 3 * m) * 100 + m
def p52 (a : Nat) (_ : Int) : Bool := a == 101
theorem p52_K {I I' : w_I} (h : w_fr p52 I I') : w_fr pK I I' := w_frm h (fun a k e => by
  simp only [pK, p52, Bool.or_eq_false_iff, Bool.and_eq_false_iff, beq_eq_false_iff_ne, ne_eq, ble_f] at e ⊢
  omega)
theorem c52 (rf : c_rf 20 I s) (w : m_w0 s) (k : ∀ I', w_fr p52 I I' → r_ok (s 10) (I' 101) (j_S s) (j_rk s) → Q none I' J b) : w_C xs xl 52 [.ref 100] I J b Q := by
  have w0 := w.1
  have rf' := rf
  simp only [c_rf, Nat.reduceAdd] at rf'
  obtain ⟨-, -, -, r16, -, -, -, rm⟩ := rf'
  have i31 : ∀ m, 0 ≤ m → m < s 10 → I 31 m = s (550 + 3 * m) ∧ 0 ≤ s (550 + 3 * m) ∧ s (550 + 3 * m) ≤ 99 := fun m x y => by
    have := w.2.2.2.2 m x y
    exact ⟨(rm m x y).1, by omega, by omega⟩
  refine e52 (b52_0 ?_)
  have outer : ∀ (m : Nat) (l2 : Int) (u3 : Option Value) (I1 : w_I), l2 + m = s 10 → 0 ≤ l2 → w_fr p52 I I1 → r_ok l2 (I1 101) (fun m => 0 ≤ m ∧ m < l2) (j_rk s) → w_T xs xl 52 13 [some (.ref 100), some (.ref 31), some (w_i l2), u3] [] [] I1 J b Q := by
    intro m
    induction m with
    | zero =>
      intro l2 u3 I1 a0 a1 a2 a3
      have e16' : I1 20 16 = s 10 := by rw [w_frA a2 (fun _ => rfl)]; exact r16
      have e : l2 = s 10 := by omega
      have a3' : r_ok (s 10) (I1 101) (j_S s) (j_rk s) := by
        have := r_ext a3 (r' := I1 101) (S' := j_S s) (fun _ _ _ => rfl) (fun m => by unfold j_S; omega)
        rw [e] at this
        exact this
      have kk := k I1 a2 a3'
      refine b52_13 ?_
      try simp only [w_Ug, reduceIte, Nat.reduceEqDiff, Int.reduceEq, eq_self, e16']
      repeat' (first | apply And.intro | intro)
      all_goals (try first | omega | contradiction | exact Or.inl trivial | exact Or.inr trivial)
    | succ m ih =>
      intro l2 u3 I1 a0 a1 a2 a3
      have e16' : I1 20 16 = s 10 := by rw [w_frA a2 (fun _ => rfl)]; exact r16
      refine b52_13 ?_
      try simp only [w_Ug, reduceIte, Nat.reduceEqDiff, Int.reduceEq, eq_self, e16']
      repeat' (first | apply And.intro | intro)
      all_goals (try first | omega | contradiction | exact Or.inl trivial | exact Or.inr trivial)
      obtain ⟨f1, f2, f3⟩ := i31 l2 a1 (by omega)
      have inner : ∀ (j : Nat) (p : Int) (I2 : w_I), p = j → p ≤ l2 → w_fr p52 I I2 → (∀ i, 0 ≤ i → i < p → I2 101 i = I1 101 i) → (∀ i, p < i → i ≤ l2 → I2 101 i = I1 101 (i - 1)) → (∀ i, p ≤ i → i < l2 → s (550 + 3 * l2) < s (550 + 3 * I1 101 i)) →
          w_T xs xl 52 29 [some (.ref 100), some (.ref 31), some (w_i l2), some (w_i p)] [] [] I2 J b Q := by
        intro j
        have fin : ∀ (p : Int) (I2 : w_I), 0 ≤ p → p ≤ l2 → w_fr p52 I I2 → (∀ i, 0 ≤ i → i < p → I2 101 i = I1 101 i) → (∀ i, p < i → i ≤ l2 → I2 101 i = I1 101 (i - 1)) → (∀ i, p ≤ i → i < l2 → s (550 + 3 * l2) < s (550 + 3 * I1 101 i)) → (∀ i, 0 ≤ i → i < p → s (550 + 3 * I1 101 i) ≤ s (550 + 3 * l2)) →
            w_T xs xl 52 13 [some (.ref 100), some (.ref 31), some (w_i (l2 + 1)), some (w_i p)] [] [] (w_U I2 101 p l2) J b Q := by
          intro p I2 hp0 b1 b2 b3 b4 b5 b6
          refine ih (l2 + 1) _ _ (by omega) (by omega) (w_frU b2 rfl) (r_ext (r_ins a3 (p := p) (x := l2) ⟨hp0, b1⟩ (fun i x y => ?_) (fun i x y => ?_)) (fun i x y => ?_) (fun m => ?_))
          · have := b6 i x y
            have := a3.2.1 i x (by omega)
            unfold j_rk
            omega
          · have := b5 i x y
            have := a3.2.1 i (by omega) y
            unfold j_rk
            omega
          · unfold r_insf
            simp only [w_Ug, reduceIte]
            by_cases c1 : i < p
            · rw [if_neg (by omega), if_pos c1]; exact b3 i x c1
            · by_cases c2 : i = p
              · rw [if_pos c2, if_neg c1, if_pos c2]
              · rw [if_neg c2, if_neg c1, if_neg c2]; exact b4 i (by omega) (by omega)
          · omega
        induction j with
        | zero =>
          intro p I2 b0 b1 b2 b3 b4 b5
          have ff := fin p I2 (by omega) b1 b2 b3 b4 b5 (fun i x y => by omega)
          refine b52_29 ?_
          try simp only [w_Ug, reduceIte, Nat.reduceEqDiff, Int.reduceEq, eq_self, if_true]
          repeat' (first | apply And.intro | intro)
          all_goals (try first | omega | contradiction | exact Or.inl trivial | exact Or.inr trivial)
        | succ j ihj =>
          intro p I2 b0 b1 b2 b3 b4 b5
          have e101 := b3 (p - 1) (by omega) (by omega)
          have om := a3.2.1 (p - 1) (by omega) (by omega)
          have e31 : I2 31 = I 31 := w_frA b2 (fun _ => rfl)
          obtain ⟨g1, g2, g3⟩ := i31 (I1 101 (p - 1)) om.1 (by omega)
          refine b52_29 ?_
          try simp only [w_Ug, reduceIte, Nat.reduceEqDiff, Int.reduceEq, eq_self, e101, e31, f1, g1]
          repeat' (first | apply And.intro | intro)
          all_goals (try first | omega | contradiction | exact Or.inl trivial | exact Or.inr trivial)
          · rename_i c
            refine fin p I2 (by omega) b1 b2 b3 b4 b5 (fun i x y => ?_)
            by_cases e : i = p - 1
            · subst e; exact c
            · have := a3.2.2.2 i (p - 1) x (by omega) (by omega)
              have om2 := a3.2.1 i x (by omega)
              unfold j_rk at this
              omega
          · rename_i c
            refine ihj (p + -1) _ (by omega) (by omega) (w_frU b2 rfl) (fun i x y => ?_) (fun i x y => ?_) (fun i x y => ?_)
            · rw [w_Ug, if_pos rfl, if_neg (by omega)]; exact b3 i x (by omega)
            · rw [w_Ug, if_pos rfl]
              by_cases e : i = p
              · rw [if_pos e, e]
              · rw [if_neg e]; exact b4 i (by omega) y
            · by_cases e : i = p - 1
              · subst e; omega
              · exact b5 i (by omega) y
      exact inner l2.toNat l2 I1 (by omega) (Int.le_refl _) a2 (fun _ _ _ => rfl) (fun i x y => by omega) (fun i x y => by omega)
  exact outer (s 10).toNat 0 _ I (by omega) (by omega) w_frr (r_nil (fun m x => by omega))
end
