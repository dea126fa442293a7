section
/-! the reference: costs, dying, worth -/
variable {xs : Nat → Int32} {xl : Nat} {I J : w_I} {b : Bool} {Q : Option Value → w_I → w_I → Bool → Prop}
variable {s : Int → Int}
def pC (a : Nat) (k : Int) : Bool := a == 124 || p205 a k
theorem p205_C {I I' : w_I} (h : w_fr p205 I I') : w_fr pC I I' := w_frm h (fun a k e => by
  unfold pC at e
  cases h : p205 a k
  · rfl
  · rw [h, Bool.or_true] at e; cases e)
theorem f124_C {I I' : w_I} (h1 : ∀ a, a ≠ 124 → I' a = I a) : w_fr pC I I' := fun a k e => by
  have : a ≠ 124 := by
    intro x
    subst x
    cases e
  rw [h1 a this]
theorem s241 {F : m_F} {i to : Int} (hs : I 110 = s) (hF : m_at I F) (w : m_w0 s) (cd : m_cd F s) (hi : 0 ≤ i ∧ i < 32) (h8 : -100 ≤ I 128 i ∧ I 128 i < 100) (h9 : w_in (I 129 i) ∧ w_in (I 130 i) ∧ w_in (I 131 i)) (ht : 0 ≤ to ∧ to < 100)
    (k : ∀ I', w_fr pC I I' → Q (some (w_i (m_cost F s (I 129 i) (I 130 i) (I 131 i) (I 128 i) to))) I' J b) : w_C xs xl 241 [.ref 104, w_i i, w_i to] I J b Q := by
  have w0 := w.1
  have hfar : w_in (m_far (I 128 i) to) := by
    unfold m_far
    repeat' split
    all_goals omega
  have vin : ∀ j, w_in (m_vr (I 129 i) (I 130 i) (I 131 i) (s 9 % 12) (I 128 i) to (m_far (I 128 i) to) 0 0 0 j) := m_vr_in ⟨h9.1, h9.2.1, h9.2.2, by omega, by omega, by omega, hfar, by decide, by decide, by decide⟩
  unfold m_cost at k
  generalize hV : m_vr (I 129 i) (I 130 i) (I 131 i) (s 9 % 12) (I 128 i) to (m_far (I 128 i) to) 0 0 0 = V at k vin
  refine e241 (b241_0 ?_)
  refine s204 (fun I1 h1 h2 => ?_)
  have hs1 : I1 110 = s := (h1 110 (by decide)).trans hs
  have i8 : I1 128 = I 128 := h1 128 (by decide)
  have i9 : I1 129 = I 129 := h1 129 (by decide)
  have i10 : I1 130 = I 130 := h1 130 (by decide)
  have i11 : I1 131 = I 131 := h1 131 (by decide)
  have fin : ∀ (far : Int) (I2 : w_I) (u1 u2 : Option Value), far = m_far (I 128 i) to → I2 = w_U (w_U (w_U (w_U (w_U (w_U (w_U I1 124 0 (I 129 i)) 124 1 (I 130 i)) 124 2 (I 131 i)) 124 3 (s 9 % 12)) 124 4 (I 128 i)) 124 5 to) 124 6 far → w_C xs xl 208 [.ref 104, w_i 0, w_i 1, w_i 9999] I2 J b (fun v Ic Jc bc => w_T xs xl 241 133 [some (.ref 104), u1, u2] [] (w_pv v []) Ic Jc bc Q) := by
    intro far I2 u1 u2 efar e2
    have fr2 : w_fr pC I I2 := by rw [e2]; exact w_frU (w_frU (w_frU (w_frU (w_frU (w_frU (w_frU (f124_C h1) rfl) rfl) rfl) rfl) rfl) rfl) rfl
    have hs2 : I2 110 = s := (w_frA fr2 (fun _ => rfl)).trans hs
    have hF2 := m_at_fr hF fr2 (fun _ => rfl) (fun _ => rfl) (fun _ => rfl) (fun _ => rfl) (fun _ => rfl) (fun _ => rfl) (fun _ => rfl) (fun _ => rfl)
    have v2 : ∀ j, 0 ≤ j → j < 10 → I2 124 j = V j := by
      intro j x y
      rw [e2, ← hV, ← efar]
      simp only [w_Ug, reduceIte, h2 j x y]
      unfold m_vr
      by_cases x6 : j = 6
      · subst x6; simp
      · by_cases x5 : j = 5
        · subst x5; simp
        · by_cases x4 : j = 4
          · subst x4; simp
          · by_cases x3 : j = 3
            · subst x3; simp
            · by_cases x2 : j = 2
              · subst x2; simp
              · by_cases x1 : j = 1
                · subst x1; simp
                · by_cases x0 : j = 0
                  · subst x0; simp
                  · simp only [if_neg x6, if_neg x5, if_neg x4, if_neg x3, if_neg x2, if_neg x1, if_neg x0]
                    repeat' split
                    all_goals rfl
    refine s208 hs2 hF2 rfl (by decide) (by decide) (by decide) (cd.1 0 (by decide) (by decide)) (fun j x y => by rw [v2 j x y]; exact vin j) (fun I3 fr3 => b241_133 ?_)
    rw [m_lawc v2 (cd.1 0 (by decide) (by decide))]
    exact k I3 (w_frt fr2 (p205_C fr3))
  refine b241_4 ?_
  try simp only [w_Ug, reduceIte, Nat.reduceEqDiff, Int.reduceEq, eq_self, hs1, i8, i9, i10, i11]
  repeat' (first | apply And.intro | intro)
  all_goals (try first | omega | contradiction | exact Or.inl trivial | exact Or.inr trivial)
  · refine fin _ _ _ _ ?_ rfl
    unfold m_far
    rw [if_neg (by omega), if_neg (by omega)]
  · refine fin _ _ _ _ ?_ rfl
    unfold m_far
    rw [if_neg (by omega), if_pos (by omega)]
  · refine fin _ _ _ _ ?_ rfl
    unfold m_far
    rw [if_pos (by omega)]
theorem s272 {F : m_F} {a l : Int} (hs : I 110 = s) (hF : m_at I F) (cd : m_cd F s) (ha : w_in a) (hl : w_in l) (k : ∀ I', w_fr pC I I' → Q (some (w_i (m_dieb F s a l))) I' J b) : w_C xs xl 272 [.ref 104, w_i a, w_i l] I J b Q := by
  have vin : ∀ i, w_in (m_vr a 0 l 0 0 0 0 0 0 0 i) := m_vr_in ⟨ha, by decide, hl, by decide, by decide, by decide, by decide, by decide, by decide, by decide⟩
  unfold m_dieb at k
  generalize hV : m_vr a 0 l 0 0 0 0 0 0 0 = V at k vin
  refine e272 (b272_0 ?_)
  refine s204 (fun I1 h1 h2 => b272_4 ?_)
  have fr2 : w_fr pC I (w_U (w_U I1 124 0 a) 124 2 l) := w_frU (w_frU (f124_C h1) rfl) rfl
  have v2 : ∀ i, 0 ≤ i → i < 10 → (w_U (w_U I1 124 0 a) 124 2 l) 124 i = V i := by
    intro i x y
    rw [← hV]
    simp only [w_Ug, reduceIte, h2 i x y]
    unfold m_vr
    by_cases x2 : i = 2
    · subst x2; simp
    · by_cases x0 : i = 0
      · subst x0; simp
      · simp only [if_neg x2, if_neg x0]
        repeat' split
        all_goals rfl
  have hs2 : (w_U (w_U I1 124 0 a) 124 2 l) 110 = s := (w_frA fr2 (fun _ => rfl)).trans hs
  have hF2 := m_at_fr hF fr2 (fun _ => rfl) (fun _ => rfl) (fun _ => rfl) (fun _ => rfl) (fun _ => rfl) (fun _ => rfl) (fun _ => rfl) (fun _ => rfl)
  refine s208 hs2 hF2 rfl (by decide) (by decide) (by decide) (cd.1 3 (by decide) (by decide)) (fun j x y => by rw [v2 j x y]; exact vin j) (fun I3 fr3 => b272_26 ?_)
  rw [m_lawc v2 (cd.1 3 (by decide) (by decide))]
  exact k I3 (w_frt fr2 (p205_C fr3))
end
