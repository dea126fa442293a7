section
/-! reading, the class: literals, conditions -/
variable {xs : Nat → Int32} {xl : Nat} {I J : w_I} {b : Bool} {Q : Option Value → w_I → w_I → Bool → Prop}
variable {K V P : Int → Int} {N : Int}
theorem w_UU {I : w_I} {a : Nat} {k v w : Int} : w_U (w_U I a k v) a k w = w_U I a k w := by
  funext a' k'
  simp only [w_Ug]
  split
  · split <;> rfl
  · rfl
theorem w_Us {I : w_I} {a : Nat} {k v : Int} (h : I a k = v) : w_U I a k v = I := by
  funext a' k'
  rw [w_Ug]
  split
  · rename_i e
    subst e
    split
    · rename_i e2
      subst e2
      exact h.symm
    · rfl
  · rfl
theorem pzX_m {c0 c1 : Int} (h : c0 ≤ c1) {I I' : w_I} (f : w_fr (pzX c1) I I') : w_fr (pzX c0) I I' := w_frm f (fun a k e => by
  unfold pzX at e ⊢
  simp only [Bool.or_eq_false_iff, Bool.and_eq_false_iff, decide_eq_false_iff_not, beq_eq_false_iff_ne, ne_eq] at e ⊢
  obtain ⟨⟨⟨e1, e2⟩, e3⟩, e4⟩ := e
  exact ⟨⟨⟨e1, e2.elim Or.inl (fun x => Or.inr (by omega))⟩, e3⟩, e4⟩)
/-- what is written from c0 on -/
def zO (I : w_I) (c0 : Int) (C : List Int) : Prop := I 9 9 = c0 + C.length ∧ z_at (I 12) c0 C
theorem zO_w {c0 x : Int} {C : List Int} (ho : zO I c0 C) : zO (w_U (w_U I 12 (c0 + C.length) x) 9 9 (c0 + C.length + 1)) c0 (C ++ [x]) := by
  refine ⟨?_, ?_⟩
  · rw [w_Ug, if_pos rfl, if_pos rfl, z_lena]
    show _ = c0 + ((C.length : Int) + 1)
    omega
  · rw [w_Ua (by decide), w_U1]
    refine z_at_a C [x] c0 (z_at_c C c0 (fun j a c => ?_) ho.2) ⟨?_, trivial⟩
    · rw [u1g, if_neg (by omega)]
    · rw [u1g, if_pos rfl]
theorem zO_a {I1 I2 : w_I} {c0 c1 : Int} {A B : List Int} (h : zO I1 c0 A) (e : c1 = c0 + A.length) (g : zO I2 c1 B) (f : w_fr (pzX c1) I1 I2) : zO I2 c0 (A ++ B) := by
  subst e
  refine ⟨by rw [g.1, z_lena]; omega, z_at_a A B c0 (z_at_c A c0 (fun j x y => f 12 j ?_) h.2) g.2⟩
  unfold pzX
  simp
  omega
theorem c89 (hN : zN K V P N) (hT : zT I K V P N) {h c0 aft : Int} (h9 : I 8 9 = h) (hh : 1 ≤ h ∧ h ≤ N) (h99 : I 9 9 = c0) (ha : aft = 0 ∨ aft = 1) (hc : 0 ≤ c0 ∧ c0 + aft ≤ 4 + h)
    (k1 : (z_li K V h aft).1 = 0 → ∀ I', w_fr (pzX c0) I I' → I' 8 9 = (z_li K V h aft).2.1 → zO I' c0 (z_lw (z_li K V h aft).2.2) → Q (some (w_i 1)) I' J b)
    (k0 : (z_li K V h aft).1 ≠ 0 → ∀ I', zB I I' (z_li K V h aft).1 (P (z_li K V h aft).2.1) → Q (some (w_i 0)) I' J b) : w_C xs xl 89 [.ref 8, w_i aft] I J b Q := by
  have hNN := hN.1.2
  have nok := z_no_ok hN (401 - h).toNat h 0 (by omega) hh.2 (Or.inl rfl)
  refine e89 (b89_0 ?_)
  generalize hR : z_li K V h aft = R at k1 k0
  unfold z_li at hR
  generalize hA : z_no K (401 - h).toNat h 0 = A at hR nok
  obtain ⟨n1, n2, n3, n4⟩ := nok
  have fr9 : ∀ h' : Int, w_fr (pzX c0) I (w_U I 8 9 h') := fun h' => w_frU w_frr rfl
  have tT : ∀ {I2 : w_I}, w_fr (pzX c0) I I2 → zT I2 K V P N := fun f => zT_f hT (w_frA f (fun _ => rfl)) (w_frA f (fun _ => rfl)) (w_frA f (fun _ => rfl))
  have bad : ∀ (z p : Int) (l : z_L), z ≠ 0 → ((z, p, l) : Int × Int × z_L) = R → ∀ I', zB I I' z (P p) → Q (some (w_i 0)) I' J b := by
    intro z p l hz e I' f
    rw [← e] at k0
    exact k0 hz I' f
  -- behind the nots
  have rest : A.1 = 0 → ∀ u : Option Value, w_C xs xl 90 [.ref 8] (w_U I 8 9 A.2.1) J b (fun v Ic Jc bc => w_T xs xl 89 54 [some (.ref 8), some (w_i aft), some (w_i A.2.2), u] [] (w_pv v []) Ic Jc bc Q) := by
    intro a0 u
    obtain ⟨n5, n6⟩ := n1 a0
    rw [if_neg (fun x => x a0)] at hR
    have hx := z_ex_k (V := V) hN (h := A.2.1) (by omega)
    refine c90 hN (tT (fr9 _)) (h := A.2.1) (c0 := c0) (by simp [w_Ug]) (by omega) (by rw [w_Ua (by decide)]; exact h99) (by omega) ?_ ?_
    all_goals generalize z_ex K V (401 - A.2.1).toNat A.2.1 1 0 [] [] = E at hR hx
    all_goals unfold z_lj at hR
    all_goals obtain ⟨x1, x2, x3, x4⟩ := hx
    · intro e0 I2 f2 e2 e3 e4
      obtain ⟨y1, y2, y3⟩ := x1 e0
      rw [if_neg (fun x => x e0)] at hR
      have g2 := w_frt (fr9 A.2.1) f2
      have hT2 := tT g2
      have e15 := (hT2 E.2.1 x3 x2).1
      have kb := (hN.2.2.2.1 E.2.1 x3 x2).1
      by_cases c3 : 10 ≤ K E.2.1 ∧ K E.2.1 ≤ 13
      · rw [if_neg (fun x => x c3)] at hR
        have hok : w_C xs xl 77 [.ref 8] I2 J b (fun v Ic Jc bc => w_T xs xl 89 91 [some (.ref 8), some (w_i aft), some (w_i A.2.2), some (w_i (K E.2.1))] [] (w_pv v []) Ic Jc bc Q) := by
          refine c77 hT2 hNN e2 ⟨x3, x2⟩ (fun cc => ?_) (fun cc I' g => ?_)
          · rw [if_neg (by omega)] at hR
            have nx := zN_x hN ⟨x3, x2⟩ (by omega) (by omega)
            refine b89_91 ?_
            try simp only [w_Ug, reduceIte, Nat.reduceEqDiff, Int.reduceEq, eq_self, if_true]
            repeat' (first | apply And.intro | intro)
            all_goals (try first | omega | contradiction | exact Or.inl trivial | exact Or.inr trivial)
            have hx := z_ex_k (V := V) hN (h := E.2.1 + 1) (by omega)
            have g3 : w_fr (pzX c0) I (w_U I2 8 9 (E.2.1 + 1)) := w_frU g2 rfl
            refine c90 hN (tT g3) (h := E.2.1 + 1) (c0 := c0 + E.2.2.length) (by simp [w_Ug]) (by omega) (by rw [w_Ua (by decide)]; exact e3) (by omega) ?_ ?_
            all_goals generalize z_ex K V (401 - (E.2.1 + 1)).toNat (E.2.1 + 1) 1 0 [] [] = D at hR hx
            all_goals obtain ⟨w1, w2, w3, w4⟩ := hx
            · intro d0 I3 f3 d2 d3 d4
              obtain ⟨v1, v2, v3⟩ := w1 d0
              rw [if_neg (fun x => x d0)] at hR
              rw [← hR] at k1
              have k1 := k1 rfl
              have o1 : zO (w_U I2 8 9 (E.2.1 + 1)) c0 E.2.2 := ⟨by rw [w_Ua (by decide)]; exact e3, by rw [w_Ua (by decide)]; exact e4⟩
              have o3 : zO I3 c0 (E.2.2 ++ D.2.2) := zO_a o1 rfl ⟨d3, d4⟩ f3
              have hl3 := z_lena E.2.2 D.2.2
              have g4 : w_fr (pzX c0) I I3 := w_frt g3 (pzX_m (by omega) f3)
              have o4 := zO_w (x := 20000 + K E.2.1) o3
              have hl4 := z_lena (E.2.2 ++ D.2.2) [20000 + K E.2.1]
              have h1 : ∀ x : Int, (([x].length : Nat) : Int) = 1 := fun _ => rfl
              have h14 := h1 (20000 + K E.2.1)
              have g5 : w_fr (pzX c0) I (w_U (w_U I3 12 (c0 + (E.2.2 ++ D.2.2).length) (20000 + K E.2.1)) 9 9 (c0 + (E.2.2 ++ D.2.2).length + 1)) := w_frU (w_frU g4 (pzX_12 (by omega))) rfl
              have n9 : (w_U (w_U I3 12 (c0 + (E.2.2 ++ D.2.2).length) (20000 + K E.2.1)) 9 9 (c0 + (E.2.2 ++ D.2.2).length + 1)) 8 9 = D.2.1 := by rw [w_Ua (by decide), w_Ua (by decide)]; exact d2
              refine b89_98 ?_
              try simp only [w_Ug, reduceIte, Nat.reduceEqDiff, Int.reduceEq, eq_self, if_true]
              repeat' (first | apply And.intro | intro)
              all_goals (try first | omega | contradiction | exact Or.inl trivial | exact Or.inr trivial)
              refine c102 o3.1 (by omega) ?_
              generalize (w_U (w_U I3 12 (c0 + (E.2.2 ++ D.2.2).length) (20000 + K E.2.1)) 9 9 (c0 + (E.2.2 ++ D.2.2).length + 1)) = I4 at o4 g5 n9
              rcases n5 with t0 | t0
              · rcases ha with a0 | a0
                · have ew : z_lw (aft, A.2.2, K E.2.1, E.2.2, D.2.2) = (E.2.2 ++ D.2.2) ++ [20000 + K E.2.1] := by
                    unfold z_lw
                    try dsimp only
                    rw [t0, a0]
                    simp
                  have kk := k1 I4 g5 n9 (by dsimp only; rw [ew]; exact o4)
                  refine b89_115 ?_
                  try simp only [w_Ug, reduceIte, Nat.reduceEqDiff, Int.reduceEq, eq_self, if_true]
                  repeat' (first | apply And.intro | intro)
                  all_goals (try first | omega | contradiction | exact Or.inl trivial | exact Or.inr trivial)
                · have ew : z_lw (aft, A.2.2, K E.2.1, E.2.2, D.2.2) = ((E.2.2 ++ D.2.2) ++ [20000 + K E.2.1]) ++ [20035] := by
                    unfold z_lw
                    try dsimp only
                    rw [t0, a0]
                    simp
                  have o5 := zO_w (x := 20035) o4
                  refine b89_115 ?_
                  try simp only [w_Ug, reduceIte, Nat.reduceEqDiff, Int.reduceEq, eq_self, if_true]
                  repeat' (first | apply And.intro | intro)
                  all_goals (try first | omega | contradiction | exact Or.inl trivial | exact Or.inr trivial)
                  refine c102 o4.1 (by omega) (b89_143 (k1 _ (w_frU (w_frU g5 (pzX_12 (by omega))) rfl) ?_ (by dsimp only; rw [ew]; exact o5)))
                  rw [w_Ua (by decide), w_Ua (by decide)]
                  exact n9
              · rcases ha with a0 | a0
                · have ew : z_lw (aft, A.2.2, K E.2.1, E.2.2, D.2.2) = ((E.2.2 ++ D.2.2) ++ [20000 + K E.2.1]) ++ [20036] := by
                    unfold z_lw
                    try dsimp only
                    rw [t0, a0]
                    simp
                  have o5 := zO_w (x := 20036) o4
                  have kk := k1 (w_U (w_U I4 12 (c0 + ((E.2.2 ++ D.2.2) ++ [20000 + K E.2.1]).length) 20036) 9 9 (c0 + ((E.2.2 ++ D.2.2) ++ [20000 + K E.2.1]).length + 1)) (w_frU (w_frU g5 (pzX_12 (by omega))) rfl) (by rw [w_Ua (by decide), w_Ua (by decide)]; exact n9) (by dsimp only; rw [ew]; exact o5)
                  refine b89_115 ?_
                  try simp only [w_Ug, reduceIte, Nat.reduceEqDiff, Int.reduceEq, eq_self, if_true]
                  repeat' (first | apply And.intro | intro)
                  all_goals (try first | omega | contradiction | exact Or.inl trivial | exact Or.inr trivial)
                  refine c102 o4.1 (by omega) ?_
                  refine b89_129 ?_
                  try simp only [w_Ug, reduceIte, Nat.reduceEqDiff, Int.reduceEq, eq_self, if_true]
                  repeat' (first | apply And.intro | intro)
                  all_goals (try first | omega | contradiction | exact Or.inl trivial | exact Or.inr trivial)
                · have ew : z_lw (aft, A.2.2, K E.2.1, E.2.2, D.2.2) = (((E.2.2 ++ D.2.2) ++ [20000 + K E.2.1]) ++ [20036]) ++ [20035] := by
                    unfold z_lw
                    try dsimp only
                    rw [t0, a0]
                    simp
                  have o5 := zO_w (x := 20036) o4
                  have hl5 := z_lena ((E.2.2 ++ D.2.2) ++ [20000 + K E.2.1]) [20036]
                  have h15 := h1 20036
                  have g6 := w_frU (w_frU g5 (pzX_12 (c0 := c0) (k := c0 + ((E.2.2 ++ D.2.2) ++ [20000 + K E.2.1]).length) (by omega)) (v := 20036)) (a := 9) (k := 9) (v := c0 + ((E.2.2 ++ D.2.2) ++ [20000 + K E.2.1]).length + 1) rfl
                  have n10 : (w_U (w_U I4 12 (c0 + ((E.2.2 ++ D.2.2) ++ [20000 + K E.2.1]).length) 20036) 9 9 (c0 + ((E.2.2 ++ D.2.2) ++ [20000 + K E.2.1]).length + 1)) 8 9 = D.2.1 := by rw [w_Ua (by decide), w_Ua (by decide)]; exact n9
                  refine b89_115 ?_
                  try simp only [w_Ug, reduceIte, Nat.reduceEqDiff, Int.reduceEq, eq_self, if_true]
                  repeat' (first | apply And.intro | intro)
                  all_goals (try first | omega | contradiction | exact Or.inl trivial | exact Or.inr trivial)
                  refine c102 o4.1 (by omega) ?_
                  generalize (w_U (w_U I4 12 (c0 + ((E.2.2 ++ D.2.2) ++ [20000 + K E.2.1]).length) 20036) 9 9 (c0 + ((E.2.2 ++ D.2.2) ++ [20000 + K E.2.1]).length + 1)) = I5 at o5 g6 n10
                  have o6 := zO_w (x := 20035) o5
                  refine b89_129 ?_
                  try simp only [w_Ug, reduceIte, Nat.reduceEqDiff, Int.reduceEq, eq_self, if_true]
                  repeat' (first | apply And.intro | intro)
                  all_goals (try first | omega | contradiction | exact Or.inl trivial | exact Or.inr trivial)
                  refine c102 o5.1 (by omega) (b89_143 (k1 _ (w_frU (w_frU g6 (pzX_12 (by omega))) rfl) ?_ (by dsimp only; rw [ew]; exact o6)))
                  rw [w_Ua (by decide), w_Ua (by decide)]
                  exact n10
            · intro d0 I' g
              rw [if_pos d0] at hR
              have kk := bad _ _ _ d0 hR I' (zB_f g (pzX_Z g3))
              refine b89_98 ?_
              try simp only [w_Ug, reduceIte, Nat.reduceEqDiff, Int.reduceEq, eq_self, if_true]
              repeat' (first | apply And.intro | intro)
              all_goals (try first | omega | contradiction | exact Or.inl trivial | exact Or.inr trivial)
          · rw [if_pos cc] at hR
            have kk := bad 2 _ _ (by decide) hR I' (zB_f g (pzX_Z g2))
            refine b89_91 ?_
            try simp only [w_Ug, reduceIte, Nat.reduceEqDiff, Int.reduceEq, eq_self, if_true]
            repeat' (first | apply And.intro | intro)
            all_goals (try first | omega | contradiction | exact Or.inl trivial | exact Or.inr trivial)
        refine b89_54 ?_
        try simp only [w_Ug, reduceIte, Nat.reduceEqDiff, Int.reduceEq, eq_self, e2, e15]
        repeat' (first | apply And.intro | intro)
        all_goals (try first | omega | contradiction | exact Or.inl trivial | exact Or.inr trivial)
      · rw [if_pos c3] at hR
        have bd := bad 1 _ _ (by decide) hR
        have hbad : w_C xs xl 76 [.ref 8, w_i 1] I2 J b (fun v Ic Jc bc => w_T xs xl 89 86 [some (.ref 8), some (w_i aft), some (w_i A.2.2), some (w_i (K E.2.1))] [] (w_pv v []) Ic Jc bc Q) := c76 hT2 hNN e2 ⟨x3, x2⟩ (fun I' f => b89_86 ⟨Or.inl rfl, bd I' (zB_f f (pzX_Z g2))⟩)
        refine b89_54 ?_
        try simp only [w_Ug, reduceIte, Nat.reduceEqDiff, Int.reduceEq, eq_self, e2, e15]
        repeat' (first | apply And.intro | intro)
        all_goals (try first | omega | contradiction | exact Or.inl trivial | exact Or.inr trivial)
    · intro e0 I' g
      rw [if_pos e0] at hR
      have kk := bad _ _ _ e0 hR I' (zB_f g (pzX_Z (fr9 _)))
      refine b89_54 ?_
      try simp only [w_Ug, reduceIte, Nat.reduceEqDiff, Int.reduceEq, eq_self, if_true]
      repeat' (first | apply And.intro | intro)
      all_goals (try first | omega | contradiction | exact Or.inl trivial | exact Or.inr trivial)
  have loop : ∀ (n : Nat) (h' t l3 : Int), (n : Int) + h' = 401 → h ≤ h' → h' ≤ N → l3 + h = h' → (t = 0 ∨ t = 1) → z_no K n h' t = A → w_T xs xl 89 4 [some (.ref 8), some (w_i aft), some (w_i t), some (w_i l3)] [] [] (w_U I 8 9 h') J b Q := by
    intro n
    induction n with
    | zero =>
      intro h' t l3 a0 a1 a2
      omega
    | succ n ih =>
      intro h' t l3 a0 a1 a2 a3 a4 a5
      have e9 : (w_U I 8 9 h') 8 9 = h' := by simp [w_Ug]
      have hT1 := tT (fr9 h')
      have e15 := (hT1 h' (by omega) a2).1
      have kb := (hN.2.2.2.1 h' (by omega) a2).1
      unfold z_no at a5
      by_cases c : K h' = 36
      · rw [if_pos c] at a5
        have ps : w_C xs xl 77 [.ref 8] (w_U I 8 9 h') J b (fun v Ic Jc bc => w_T xs xl 89 39 [some (.ref 8), some (w_i aft), some (w_i (1 - t)), some (w_i l3)] [] (w_pv v []) Ic Jc bc Q) := by
          refine c77 hT1 hNN e9 (by omega) (fun cc => ?_) (fun cc I' g => ?_)
          · rw [if_neg (by omega)] at a5
            rw [w_UU]
            have nxt := ih (h' + 1) (1 - t) (l3 + 1) (by omega) (by omega) (zN_x hN (by omega) (by omega) (by omega)) (by omega) (by omega) a5
            refine b89_39 ?_
            try simp only [w_Ug, reduceIte, Nat.reduceEqDiff, Int.reduceEq, eq_self, if_true]
            repeat' (first | apply And.intro | intro)
            all_goals (try first | omega | contradiction | exact Or.inl trivial | exact Or.inr trivial)
          · rw [if_pos cc] at a5
            have kk : Q (some (w_i 0)) I' J b := by
              rw [← a5] at hR
              exact bad 2 h' z_l0 (by decide) hR I' (zB_f g (pzX_Z (fr9 _)))
            refine b89_39 ?_
            try simp only [w_Ug, reduceIte, Nat.reduceEqDiff, Int.reduceEq, eq_self, if_true]
            repeat' (first | apply And.intro | intro)
            all_goals (try first | omega | contradiction | exact Or.inl trivial | exact Or.inr trivial)
        generalize hI1 : w_U I 8 9 h' = I1 at e9 e15 ps
        rcases a4 with rfl | rfl
        · have ps : w_C xs xl 77 [.ref 8] I1 J b (fun v Ic Jc bc => w_T xs xl 89 39 [some (.ref 8), some (w_i aft), some (w_i 1), some (w_i l3)] [] (w_pv v []) Ic Jc bc Q) := ps
          refine b89_4 ?_
          try simp only [w_Ug, reduceIte, Nat.reduceEqDiff, Int.reduceEq, eq_self, e9, e15]
          repeat' (first | apply And.intro | intro)
          all_goals (try first | omega | contradiction | exact Or.inl trivial | exact Or.inr trivial)
        · have ps : w_C xs xl 77 [.ref 8] I1 J b (fun v Ic Jc bc => w_T xs xl 89 39 [some (.ref 8), some (w_i aft), some (w_i 0), some (w_i l3)] [] (w_pv v []) Ic Jc bc Q) := ps
          refine b89_4 ?_
          try simp only [w_Ug, reduceIte, Nat.reduceEqDiff, Int.reduceEq, eq_self, e9, e15]
          repeat' (first | apply And.intro | intro)
          all_goals (try first | omega | contradiction | exact Or.inl trivial | exact Or.inr trivial)
      · rw [if_neg c] at a5
        have rs := rest (by rw [← a5])
        have ea1 : A.2.1 = h' := by rw [← a5]
        have ea2 : A.2.2 = t := by rw [← a5]
        rw [ea1, ea2] at rs
        generalize hI1 : w_U I 8 9 h' = I1 at e9 e15 rs
        refine b89_4 ?_
        try simp only [w_Ug, reduceIte, Nat.reduceEqDiff, Int.reduceEq, eq_self, e9, e15]
        repeat' (first | apply And.intro | intro)
        all_goals (try first | omega | contradiction | exact Or.inl trivial | exact Or.inr trivial)
        all_goals exact rs _
  have := loop (401 - h).toNat h 0 0 (by omega) (Int.le_refl _) hh.2 (by omega) (Or.inl rfl) hA
  rw [w_Us h9] at this
  exact this
end
