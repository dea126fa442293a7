section
/-! the class: who can stay -/
variable {xs : Nat → Int32} {xl : Nat} {I J : w_I} {b : Bool} {Q : Option Value → w_I → w_I → Bool → Prop}
variable {s : Int → Int}
def p60 (a : Nat) (_ : Int) : Bool := a == 91
def l_sp (from' by' h : Int) : Int := if from' ≤ h then h + by' else h
theorem c60 {fr by' n : Int} {r hm : Int → Int} (hf : w_in fr) (hn : I 78 6 = n) (hb : 0 ≤ n ∧ n ≤ 24) (h84 : ∀ i, 0 ≤ i → i < n → I 84 i = r i ∧ 0 ≤ r i ∧ r i < 30) (h28 : ∀ i, 0 ≤ i → i < n → I 28 (r i) = hm i ∧ w_in (hm i))
    (k : ∀ I', w_fr p60 I I' → (∀ i, 0 ≤ i → i < n → I' 91 i = l_sp fr by' (hm i)) → Q none I' J b) : w_C xs xl 60 [.ref 89, w_i fr, w_i by'] I J b Q := by
  refine e60 (b60_0 ?_)
  have loop : ∀ (m : Nat) (l3 : Int) (u4 : Option Value) (I1 : w_I), l3 + m = n → 0 ≤ l3 → w_fr p60 I I1 → (∀ i, 0 ≤ i → i < l3 → I1 91 i = l_sp fr by' (hm i)) → w_T xs xl 60 2 [some (.ref 89), some (w_i fr), some (w_i by'), some (w_i l3), u4] [] [] I1 J b Q := by
    intro m
    induction m with
    | zero =>
      intro l3 u4 I1 a0 a1 a2 a3
      have n1 : I1 78 6 = n := by rw [a2 78 6 rfl]; exact hn
      have kk := k I1 a2 (fun i x y => a3 i x (by omega))
      refine b60_2 ?_
      try simp only [w_Ug, reduceIte, Nat.reduceEqDiff, Int.reduceEq, eq_self, n1]
      repeat' (first | apply And.intro | intro)
      all_goals (try first | omega | contradiction | exact Or.inl trivial | exact Or.inr trivial)
    | succ m ih =>
      intro l3 u4 I1 a0 a1 a2 a3
      have n1 : I1 78 6 = n := by rw [a2 78 6 rfl]; exact hn
      obtain ⟨x1, x2, x3⟩ := h84 l3 a1 (by omega)
      obtain ⟨y1, y2⟩ := h28 l3 a1 (by omega)
      have e84 : I1 84 l3 = r l3 := by rw [w_frA a2 (fun _ => rfl)]; exact x1
      have e28 : I1 28 (r l3) = hm l3 := by rw [w_frA a2 (fun _ => rfl)]; exact y1
      have fin : ∀ (v : Int) (u4 : Option Value), v = l_sp fr by' (hm l3) → w_T xs xl 60 2 [some (.ref 89), some (w_i fr), some (w_i by'), some (w_i (l3 + 1)), u4] [] [] (w_U I1 91 l3 v) J b Q := by
        intro v u4 hv
        refine ih (l3 + 1) u4 _ (by omega) (by omega) (w_frU a2 rfl) (fun i x y => ?_)
        rw [w_Ug, if_pos rfl]
        by_cases e : i = l3
        · subst e; rw [if_pos rfl]; exact hv
        · rw [if_neg e]; exact a3 i x (by omega)
      refine b60_2 ?_
      try simp only [w_Ug, reduceIte, Nat.reduceEqDiff, Int.reduceEq, eq_self, n1, e84, e28]
      repeat' (first | apply And.intro | intro)
      all_goals (try first | omega | contradiction | exact Or.inl trivial | exact Or.inr trivial)
      · rename_i c
        exact fin _ _ (by unfold l_sp; rw [if_neg (by omega)])
      · rename_i c
        exact fin _ _ (by unfold l_sp; rw [if_pos (by omega)])
  exact loop n.toNat 0 _ I (by omega) (by omega) w_frr (fun i x y => by omega)
def p62 (a : Nat) (_ : Int) : Bool := a == 92
/-- where the i-th stands above the lowest it can have -/
def l_x (sp : Int → Int) (cp cm i : Int) : Int := sp i - (if i < cp then i else i + cm)
theorem c62 {cp cm sl n : Int} {sp : Int → Int} (hc : w_in cp) (hcm : cm = 0 ∨ cm = 1) (hsl : 0 ≤ sl ∧ sl ≤ 24) (hn : I 78 6 = n) (hb : 0 ≤ n ∧ n ≤ 24) (h91 : ∀ i, 0 ≤ i → i < n → I 91 i = sp i ∧ -1000 ≤ sp i ∧ sp i ≤ 1000)
    (k : ∀ I', w_fr p62 I I' → Q (some (w_i (n - l_w (l_x sp cp cm) sl n.toNat 0 0))) I' J b) : w_C xs xl 62 [.ref 89, w_i cp, w_i cm, w_i sl] I J b Q := by
  have wb := l_w_b (x := l_x sp cp cm) (sl := sl) n.toNat 0 0
  refine e62 (b62_0 ?_)
  refine f295_92 (fun I0 g0 z0 => b62_11 ?_)
  have fr0 : w_fr p62 I I0 := fun a k e => by
    have : a ≠ 92 := by
      intro x
      subst x
      cases e
    rw [g0 a this]
  generalize hX : l_w (l_x sp cp cm) sl n.toNat 0 0 = X at k wb
  have loop : ∀ (m : Nat) (l4 l5 : Int) (u6 u7 u8 : Option Value) (I1 : w_I), l5 + m = n → 0 ≤ l5 → w_fr p62 I I1 → (∀ u, 0 ≤ u → u ≤ sl → 0 ≤ I1 92 u ∧ I1 92 u ≤ l5) → (∀ d u, 0 ≤ d → d ≤ u → u ≤ sl → I1 92 d + l_w (l_x sp cp cm) sl m l5 u ≤ X) → (∃ d u, 0 ≤ d ∧ d ≤ u ∧ u ≤ sl ∧ X ≤ I1 92 d + l_w (l_x sp cp cm) sl m l5 u) → (∀ u, 0 ≤ u → u ≤ sl → I1 92 u ≤ l4) → (∃ u, 0 ≤ u ∧ u ≤ sl ∧ I1 92 u = l4) →
      w_T xs xl 62 14 [some (.ref 89), some (w_i cp), some (w_i cm), some (w_i sl), some (w_i l4), some (w_i l5), u6, u7, u8] [] [] I1 J b Q := by
    intro m
    induction m with
    | zero =>
      intro l4 l5 u6 u7 u8 I1 a0 a1 a2 a3 a4 a5 a6 a7
      have n1 : I1 78 6 = n := by rw [a2 78 6 rfl]; exact hn
      obtain ⟨d, u, d0, d1, d2, d3⟩ := a5
      obtain ⟨v, v0, v1, v2⟩ := a7
      have x1 := a6 d d0 (by omega)
      have x2 := a4 v v v0 (Int.le_refl _) v1
      have d3' : X ≤ I1 92 d + 0 := d3
      have x2' : I1 92 v + 0 ≤ X := x2
      have e : l4 = X := by omega
      have kk := k I1 a2
      rw [← e] at kk
      refine b62_14 ?_
      try simp only [w_Ug, reduceIte, Nat.reduceEqDiff, Int.reduceEq, eq_self, n1]
      repeat' (first | apply And.intro | intro)
      all_goals (try first | omega | contradiction | exact Or.inl trivial | exact Or.inr trivial)
    | succ m ih =>
      intro l4 l5 u6 u7 u8 I1 a0 a1 a2 a3 a4 a5 a6 a7
      have n1 : I1 78 6 = n := by rw [a2 78 6 rfl]; exact hn
      obtain ⟨y1, y2⟩ := h91 l5 a1 (by omega)
      have e91 : I1 91 l5 = sp l5 := by rw [w_frA a2 (fun _ => rfl)]; exact y1
      have wd := fun u => l_w_s (x := l_x sp cp cm) (sl := sl) (k := m) (i := l5) (u := u)
      have wm := fun u u' h => l_w_m (x := l_x sp cp cm) (sl := sl) m (l5 + 1) u u' h
      have xd : l_x sp cp cm l5 = sp l5 - (if l5 < cp then l5 else l5 + cm) := rfl
      have wle : ∀ u, l_w (l_x sp cp cm) sl m (l5 + 1) u ≤ l_w (l_x sp cp cm) sl (m + 1) l5 u := fun u => by
        rw [wd u]
        split <;> omega
      -- it cannot stay
      have skip : ¬ (0 ≤ l_x sp cp cm l5 ∧ l_x sp cp cm l5 ≤ sl) → ∀ u6 u7 u8, w_T xs xl 62 14 [some (.ref 89), some (w_i cp), some (w_i cm), some (w_i sl), some (w_i l4), some (w_i (l5 + 1)), u6, u7, u8] [] [] I1 J b Q := by
        intro hx u6 u7 u8
        have we : ∀ u, 0 ≤ u → l_w (l_x sp cp cm) sl (m + 1) l5 u = l_w (l_x sp cp cm) sl m (l5 + 1) u := fun u hu => by
          rw [wd u, if_neg (by omega)]
        refine ih l4 (l5 + 1) u6 u7 u8 I1 (by omega) (by omega) a2 (fun u x y => ?_) (fun d u x y z => ?_) ?_ a6 a7
        · have := a3 u x y; omega
        · rw [← we u (by omega)]; exact a4 d u x y z
        · obtain ⟨d, u, d0, d1, d2, d3⟩ := a5
          exact ⟨d, u, d0, d1, d2, by rw [← we u (by omega)]; exact d3⟩
      -- it can
      have stay : (0 ≤ l_x sp cp cm l5 ∧ l_x sp cp cm l5 ≤ sl) → w_T xs xl 62 68 [some (.ref 89), some (w_i cp), some (w_i cm), some (w_i sl), some (w_i l4), some (w_i l5), some (w_i (l_x sp cp cm l5)), some (w_i 0), some (w_i 0)] [] [] I1 J b Q := by
        intro hx
        generalize l_x sp cp cm l5 = x at wd hx skip
        have inner : ∀ (j : Nat) (l7 l8 : Int), l8 + j = x + 1 → 0 ≤ l8 → 0 ≤ l7 → l7 ≤ l5 → (∀ d, 0 ≤ d → d < l8 → I1 92 d ≤ l7) → (l7 = 0 ∨ ∃ d, 0 ≤ d ∧ d < l8 ∧ I1 92 d = l7) →
            w_T xs xl 62 68 [some (.ref 89), some (w_i cp), some (w_i cm), some (w_i sl), some (w_i l4), some (w_i l5), some (w_i x), some (w_i l7), some (w_i l8)] [] [] I1 J b Q := by
          intro j
          induction j with
          | zero =>
            intro l7 l8 c0 c1 c2 c3 c4 c5
            have l4b : w_in l4 := by
              obtain ⟨v, v0, v1, v2⟩ := a7
              have := a3 v v0 v1
              omega
            have hat : ∃ d, 0 ≤ d ∧ d ≤ x ∧ l7 ≤ I1 92 d := by
              rcases c5 with h | ⟨d, h1, h2, h3⟩
              · exact ⟨0, by omega, by omega, by have := (a3 0 (by omega) (by omega)).1; omega⟩
              · exact ⟨d, h1, by omega, by omega⟩
            obtain ⟨d0, p1, p2, p3⟩ := hat
            have top := a4 d0 x p1 p2 hx.2
            have wx := wd x
            rw [if_pos (by omega)] at wx
            have l40 : l7 ≤ l4 := by have := a6 d0 p1 (by omega); omega
            refine b62_68 ?_
            try simp only [w_Ug, reduceIte, Nat.reduceEqDiff, Int.reduceEq, eq_self, if_true]
            repeat' (first | apply And.intro | intro)
            all_goals (try first | omega | contradiction | exact Or.inl trivial | exact Or.inr trivial)
            have new : ∀ u, (w_U I1 92 x (l7 + 1)) 92 u = if u = x then l7 + 1 else I1 92 u := fun u => by rw [w_Ug, if_pos rfl]
            refine ih _ (l5 + 1) _ _ _ _ (by omega) (by omega) (w_frU a2 rfl) (fun u h1 h2 => ?_) (fun d u h1 h2 h3 => ?_) ?_ (fun u h1 h2 => ?_) ?_
            · rw [new]
              have := a3 u h1 h2
              split <;> omega
            · rw [new]
              have ad := a4 d u h1 h2 h3
              have wu := wle u
              split
              · rename_i e
                have := wm x u (by omega)
                omega
              · omega
            · obtain ⟨d, u, q0, q1, q2, q3⟩ := a5
              have wu := wd u
              by_cases cc : u ≤ x ∧ x ≤ sl
              · rw [if_pos cc] at wu
                by_cases c6 : l_w (l_x sp cp cm) sl m (l5 + 1) u ≤ 1 + l_w (l_x sp cp cm) sl m (l5 + 1) x
                · refine ⟨x, x, by omega, Int.le_refl _, hx.2, ?_⟩
                  rw [new, if_pos rfl]
                  have := c4 d q0 (by omega)
                  omega
                · refine ⟨d, u, q0, q1, q2, ?_⟩
                  rw [new]
                  have := c4 d q0 (by omega)
                  split <;> omega
              · rw [if_neg cc] at wu
                refine ⟨d, u, q0, q1, q2, ?_⟩
                rw [new]
                split
                · rename_i e
                  have := c4 d q0 (by omega)
                  omega
                · omega
            · rw [new]
              have := a6 u h1 h2
              split <;> omega
            · by_cases c6 : l4 ≤ l7 + 1
              · exact ⟨x, by omega, by omega, by rw [new, if_pos rfl]; omega⟩
              · obtain ⟨v, v0, v1, v2⟩ := a7
                refine ⟨v, v0, v1, ?_⟩
                rw [new]
                split
                · rename_i e
                  have := c4 v v0 (by omega)
                  omega
                · omega
          | succ j ihj =>
            intro l7 l8 c0 c1 c2 c3 c4 c5
            have b8 := a3 l8 c1 (by omega)
            refine b62_68 ?_
            try simp only [w_Ug, reduceIte, Nat.reduceEqDiff, Int.reduceEq, eq_self, if_true]
            repeat' (first | apply And.intro | intro)
            all_goals (try first | omega | contradiction | exact Or.inl trivial | exact Or.inr trivial)
            refine ihj _ (l8 + 1) (by omega) (by omega) (by omega) (by omega) (fun d h1 h2 => ?_) ?_
            · by_cases e : d = l8
              · subst e; omega
              · have := c4 d h1 (by omega); omega
            · by_cases c6 : I1 92 l8 ≤ l7
              · rcases c5 with h | ⟨d, h1, h2, h3⟩
                · left; omega
                · right; exact ⟨d, h1, by omega, by omega⟩
              · right; exact ⟨l8, c1, by omega, by omega⟩
        exact inner (x + 1).toNat 0 0 (by omega) (by omega) (by omega) a1 (fun d h1 h2 => by omega) (Or.inl rfl)
      by_cases ccp : l5 < cp
      · rw [if_pos ccp] at xd
        rw [xd] at skip stay
        refine b62_14 ?_
        try simp only [w_Ug, reduceIte, Nat.reduceEqDiff, Int.reduceEq, eq_self, n1, e91]
        repeat' (first | apply And.intro | intro)
        all_goals (try first | omega | contradiction | exact Or.inl trivial | exact Or.inr trivial)
        · exact skip (by omega) _ _ _
        · exact skip (by omega) _ _ _
        · exact stay (by omega)
      · rw [if_neg ccp] at xd
        rw [xd] at skip stay
        refine b62_14 ?_
        try simp only [w_Ug, reduceIte, Nat.reduceEqDiff, Int.reduceEq, eq_self, n1, e91]
        repeat' (first | apply And.intro | intro)
        all_goals (try first | omega | contradiction | exact Or.inl trivial | exact Or.inr trivial)
        · exact skip (by omega) _ _ _
        · exact skip (by omega) _ _ _
        · exact stay (by omega)
  have z : ∀ u, 0 ≤ u → u ≤ sl → I0 92 u = 0 := fun u x y => z0 u x (by omega)
  refine loop n.toNat 0 0 _ _ _ I0 (by omega) (by omega) fr0 (fun u x y => by rw [z u x y]; omega) (fun d u x y w => ?_) ?_ (fun u x y => by rw [z u x y]; omega) ⟨0, by omega, by omega, z 0 (by omega) (by omega)⟩
  · rw [z d x (by omega), ← hX]
    have := l_w_m (x := l_x sp cp cm) (sl := sl) n.toNat 0 0 u (by omega)
    omega
  · refine ⟨0, 0, by omega, by omega, by omega, ?_⟩
    rw [z 0 (by omega) (by omega), ← hX]
    omega
end
