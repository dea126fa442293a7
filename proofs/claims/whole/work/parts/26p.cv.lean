section
/-! reading, the class: formulas told, rules, a tell -/
variable {xs : Nat → Int32} {xl : Nat} {I J : w_I} {b : Bool} {Q : Option Value → w_I → w_I → Bool → Prop}
variable {G K V P M : Int → Int} {n N h : Int} {S : z_S}
theorem c77r (hN : zN K V P N) {f : Int → z_R} {R : z_R} {S0 : z_S} (hR : z_pa h S0 f = R) (hT : zT I K V P N) (h9 : I 8 9 = h) (hh : 0 ≤ h ∧ h ≤ N) (hk : 2 ≤ K h) (k1 : h + 1 ≤ N → f (h + 1) = R → Q (some (w_i 1)) (w_U I 8 9 (h + 1)) J b) (k0 : R.1 ≠ 0 → ∀ I', zB I I' R.1 (P R.2.1) → Q (some (w_i 0)) I' J b) : w_C xs xl 77 [.ref 8] I J b Q := by
  unfold z_pa at hR
  refine c77 hT hN.1.2 h9 hh (fun c => ?_) (fun c I' g => ?_)
  · rw [if_neg (by omega)] at hR
    exact k1 (zN_x hN hh hk (by omega)) hR
  · rw [if_pos c] at hR
    rw [← hR] at k0
    exact k0 (by simp) I' g
theorem c78r (hN : zN K V P N) {f : Int → z_R} {R : z_R} {S0 : z_S} {w : Int} (hR : z_wa K w h S0 f = R) (hT : zT I K V P N) (h9 : I 8 9 = h) (hh : 0 ≤ h ∧ h ≤ N) (hw : 2 ≤ w ∧ w ≤ 46) (k1 : K h = w → h + 1 ≤ N → f (h + 1) = R → Q (some (w_i 1)) (w_U I 8 9 (h + 1)) J b) (k0 : R.1 ≠ 0 → ∀ I', zB I I' R.1 (P R.2.1) → Q (some (w_i 0)) I' J b) : w_C xs xl 78 [.ref 8, w_i w] I J b Q := by
  unfold z_wa z_pa at hR
  refine c78 hT hN.1.2 h9 hh (hN.2.2.2.1 h hh.1 hh.2).1 (by omega) (fun e c => ?_) (fun e I' g => ?_) (fun e c I' g => ?_)
  · rw [if_pos e, if_neg (by omega)] at hR
    exact k1 e (zN_x hN hh (by omega) (by omega)) hR
  · rw [if_neg e] at hR
    rw [← hR] at k0
    exact k0 (by simp) I' g
  · rw [if_pos e, if_pos c] at hR
    rw [← hR] at k0
    exact k0 (by simp) I' g
/-- the old ones stand -/
theorem zCl_o {I' : w_I} {c0 : Int} {w : Int} (hz : zCl I S) (h99 : I 9 9 = c0) (c1 : c0 ≤ I' 9 9) (hw : 0 ≤ w ∧ w < 4) (h13 : I' 13 w = I 13 w) (h14 : I' 14 w = I 14 w) (f12 : ∀ k, k < c0 → I' 12 k = I 12 k) : 0 ≤ I' 13 w ∧ I' 14 w = I' 13 w + (z_dw (q_lw S w) w).length ∧ I' 14 w ≤ I' 9 9 ∧ z_at (I' 12) (I' 13 w) (z_dw (q_lw S w) w) := by
  obtain ⟨a1, a2, a3, a4⟩ := hz w hw.1 hw.2
  rw [h13, h14]
  exact ⟨a1, a2, by omega, z_at_c _ _ (fun j x y => f12 j (by omega)) a4⟩
theorem zCr_o {I' : w_I} {c0 : Int} {r : Nat} {L : List z_L} (hz : zCr I S) (h99 : I 9 9 = c0) (c1 : c0 ≤ I' 9 9) (hr : (q_ru S)[r]? = some L) (h13 : I' 13 (4 + r) = I 13 (4 + r)) (h14 : I' 14 (4 + r) = I 14 (4 + r)) (f12 : ∀ k, k < c0 → I' 12 k = I 12 k) : 0 ≤ I' 13 (4 + r) ∧ I' 14 (4 + r) = I' 13 (4 + r) + (z_rw L 0).length ∧ I' 14 (4 + r) ≤ I' 9 9 ∧ z_at (I' 12) (I' 13 (4 + r)) (z_rw L 0) := by
  obtain ⟨a1, a2, a3, a4⟩ := hz r L hr
  rw [h13, h14]
  exact ⟨a1, a2, by omega, z_at_c _ _ (fun j x y => f12 j (by omega)) a4⟩
theorem pzX_a {c0 : Int} {I I' : w_I} (f : w_fr (pzX c0) I I') {a : Nat} (h1 : a ≠ 8) (h2 : a ≠ 9) (h3 : a ≠ 12) (h4 : a ≠ 19) : I' a = I a := w_frA f (fun k => by unfold pzX; simp [h1, h2, h3, h4])
theorem pzX_8 {c0 k : Int} {I I' : w_I} (f : w_fr (pzX c0) I I') (h1 : k ≠ 7) (h2 : k ≠ 9) : I' 8 k = I 8 k := f 8 k (by unfold pzX; simp [h1, h2])
theorem pzX_9 {c0 k : Int} {I I' : w_I} (f : w_fr (pzX c0) I I') (h2 : k ≠ 9) : I' 9 k = I 9 k := f 9 k (by unfold pzX; simp [h2])
theorem pzX_c {c0 k : Int} {I I' : w_I} (f : w_fr (pzX c0) I I') (h2 : k < c0) : I' 12 k = I 12 k := f 12 k (by unfold pzX; simp; omega)
theorem c87 (hN : zN K V P N) (hz : zC I G n K V P N h S) (hh : 0 ≤ h ∧ h ≤ N) {w : Int} (hw : 0 ≤ w ∧ w < 4) (hk : 2 ≤ K h) {R : z_R} (hR : z_tl K V w h S = R) (k1 : R.1 = 0 → ∀ I', w_fr pzZ I I' → zC I' G n K V P N R.2.1 R.2.2 → Q (some (w_i 1)) I' J b) (k0 : R.1 ≠ 0 → ∀ I', zB I I' R.1 (P R.2.1) → Q (some (w_i 0)) I' J b) : w_C xs xl 87 [.ref 8, w_i w] I J b Q := by
  have hNN := hN.1.2
  have h9 := hz.2.1.1
  have c0b := hz.2.2.2.2.2.1
  have hcl := hz.2.2.2.2.2.2.1
  have hcr := hz.2.2.2.2.2.2.2
  generalize h99 : I 9 9 = c0 at c0b
  refine e87 ?_
  unfold z_tl at hR
  refine b87_0 ?_
  try simp only [w_Ug, reduceIte, Nat.reduceEqDiff, Int.reduceEq, eq_self, h99]
  repeat' (first | apply And.intro | intro)
  all_goals (try first | omega | contradiction | exact Or.inl trivial | exact Or.inr trivial)
  have f1 : w_fr pzZ I (w_U I 13 w c0) := w_frU w_frr rfl
  refine c77r hN hR (zT_f hz.1.2 (w_Ua (by decide)) (w_Ua (by decide)) (w_Ua (by decide))) (by rw [w_Ua (by decide)]; exact h9) hh hk (fun x1 hR => ?_) (fun r I' f => ?_)
  · refine b87_20 ?_
    try simp only [w_Ug, reduceIte, Nat.reduceEqDiff, Int.reduceEq, eq_self, if_true]
    repeat' (first | apply And.intro | intro)
    all_goals (try first | omega | contradiction | exact Or.inl trivial | exact Or.inr trivial)
    have f2 : w_fr pzZ I (w_U (w_U I 13 w c0) 8 9 (h + 1)) := w_frU f1 rfl
    refine c78r hN hR (zT_f hz.1.2 (by rw [w_Ua (by decide), w_Ua (by decide)]) (by rw [w_Ua (by decide), w_Ua (by decide)]) (by rw [w_Ua (by decide), w_Ua (by decide)])) (by simp [w_Ug]) ⟨by omega, x1⟩ (by decide) (fun _ x2 hR => ?_) (fun r I' f => ?_)
    · rw [w_UU]
      have f3 : w_fr pzZ I (w_U (w_U I 13 w c0) 8 9 (h + 1 + 1)) := w_frU f1 rfl
      have hx := z_ex_k (V := V) hN (h := h + 1 + 1) ⟨by omega, x2⟩
      have t3 : zT (w_U (w_U I 13 w c0) 8 9 (h + 1 + 1)) K V P N := zT_f hz.1.2 (by rw [w_Ua (by decide), w_Ua (by decide)]) (by rw [w_Ua (by decide), w_Ua (by decide)]) (by rw [w_Ua (by decide), w_Ua (by decide)])
      refine b87_28 ?_
      try simp only [w_Ug, reduceIte, Nat.reduceEqDiff, Int.reduceEq, eq_self, if_true]
      repeat' (first | apply And.intro | intro)
      all_goals (try first | omega | contradiction | exact Or.inl trivial | exact Or.inr trivial)
      refine c90 hN t3 (h := h + 1 + 1) (c0 := c0) (by simp [w_Ug]) ⟨by omega, x2⟩ (by rw [w_Ua (by decide), w_Ua (by decide)]; exact h99) (by omega) ?_ ?_
      all_goals generalize z_ex K V (401 - (h + 1 + 1)).toNat (h + 1 + 1) 1 0 [] [] = E at hR hx
      all_goals unfold z_tl2 at hR
      all_goals obtain ⟨x3, x4, x5, x6⟩ := hx
      · intro e0 I4 g4 q9 q99 qat
        obtain ⟨y1, y2, y3⟩ := x3 e0
        rw [if_neg (fun x => x e0)] at hR
        have a13 : I4 13 = u1 (I 13) w c0 := by rw [pzX_a g4 (by decide) (by decide) (by decide) (by decide), w_Ua (by decide), w_U1]
        have a14 : I4 14 = I 14 := by rw [pzX_a g4 (by decide) (by decide) (by decide) (by decide), w_Ua (by decide), w_Ua (by decide)]
        have a12 : ∀ k, k < c0 → I4 12 k = I 12 k := fun k x => by rw [pzX_c g4 x, w_Ua (by decide), w_Ua (by decide)]
        have z5 : zC (w_U I4 14 w (c0 + E.2.2.length)) G n K V P N E.2.1 (z_alw w E.2.2 S) := by
          refine zC_x hz h99 (fun a p1 p2 p3 p4 p5 p6 => ?_) (fun k p1 p2 => ?_) (fun k p1 p2 => ?_) (by rw [w_Ua (by decide)]; exact q9) ?_ rfl rfl rfl rfl rfl rfl rfl rfl ?_ ?_ ?_
          · rw [w_Ua p5, pzX_a g4 p1 p2 p3 p6, w_Ua p1, w_Ua p4]
          · rw [w_Ua (by decide), pzX_8 g4 p1 p2, w_Ug, if_pos rfl, if_neg p2, w_Ua (by decide)]
          · rw [w_Ua (by decide), pzX_9 g4 p2, w_Ua (by decide), w_Ua (by decide)]
          · rw [w_Ua (by decide), q99]; omega
          · rw [w_Ua (by decide), pzX_9 g4 (by decide), w_Ua (by decide), w_Ua (by decide)]; exact hz.2.2.2.2.1.2.2.2
          · intro w' u1' u2'
            by_cases e : w' = w
            · subst e
              have ed : z_dw (q_lw (z_alw w' E.2.2 S) w') w' = E.2.2 := by
                show z_dw (if w' = w' then some E.2.2 else q_lw S w') w' = E.2.2
                rw [if_pos rfl]
                rfl
              rw [ed, w_Ua (by decide), a13, u1g, if_pos rfl, w_U1, u1g, if_pos rfl, w_Ua (by decide), w_Ua (by decide), q99]
              exact ⟨c0b.1, rfl, Int.le_refl _, qat⟩
            · have ed : q_lw (z_alw w E.2.2 S) w' = q_lw S w' := if_neg e
              rw [ed]
              refine zCl_o hcl h99 ?_ ⟨u1', u2'⟩ ?_ ?_ (fun k p => ?_)
              · rw [w_Ua (by decide), q99]; omega
              · rw [w_Ua (by decide), a13, u1g, if_neg e]
              · rw [w_U1, u1g, if_neg e, a14]
              · rw [w_Ua (by decide)]; exact a12 k p
          · intro r L hr
            refine zCr_o hcr h99 ?_ hr ?_ ?_ (fun k p => ?_)
            · rw [w_Ua (by decide), q99]; omega
            · rw [w_Ua (by decide), a13, u1g, if_neg (by omega)]
            · rw [w_U1, u1g, if_neg (by omega), a14]
            · rw [w_Ua (by decide)]; exact a12 k p
        have f5 : w_fr pzZ I (w_U I4 14 w (c0 + E.2.2.length)) := w_frU (w_frt f3 (pzX_Z g4)) rfl
        refine b87_35 ?_
        try simp only [w_Ug, reduceIte, Nat.reduceEqDiff, Int.reduceEq, eq_self, q99]
        repeat' (first | apply And.intro | intro)
        all_goals (try first | omega | contradiction | exact Or.inl trivial | exact Or.inr trivial)
        refine c78z hN hR z5 ⟨x5, x4⟩ (by decide) (fun _ z7 x7 r7 => b87_61 ⟨Or.inr rfl, ?_⟩) (fun r I' f => b87_61 ⟨Or.inl rfl, k0 r I' (zB_f f f5)⟩)
        have r7 : (0, E.2.1 + 1, z_alw w E.2.2 S) = R := r7
        rw [← r7] at k1
        exact k1 rfl _ (w_frU f5 rfl) z7
      · intro e0 I' f
        rw [if_pos e0] at hR
        rw [← hR] at k0
        have kk := k0 e0 I' (zB_f f f3)
        refine b87_35 ?_
        try simp only [w_Ug, reduceIte, Nat.reduceEqDiff, Int.reduceEq, eq_self, if_true]
        repeat' (first | apply And.intro | intro)
        all_goals (try first | omega | contradiction | exact Or.inl trivial | exact Or.inr trivial)
    · have kk := k0 r I' (zB_f f f2)
      refine b87_28 ?_
      try simp only [w_Ug, reduceIte, Nat.reduceEqDiff, Int.reduceEq, eq_self, if_true]
      repeat' (first | apply And.intro | intro)
      all_goals (try first | omega | contradiction | exact Or.inl trivial | exact Or.inr trivial)
  · have kk := k0 r I' (zB_f f f1)
    refine b87_20 ?_
    try simp only [w_Ug, reduceIte, Nat.reduceEqDiff, Int.reduceEq, eq_self, if_true]
    repeat' (first | apply And.intro | intro)
    all_goals (try first | omega | contradiction | exact Or.inl trivial | exact Or.inr trivial)
theorem c88 (hN : zN K V P N) (hz : zC I G n K V P N h S) (hh : 0 ≤ h ∧ h ≤ N) (hk : 2 ≤ K h) (hru : (q_ru S).length ≤ 6) {R : z_R} (hR : z_tru K V h S = R) (k1 : R.1 = 0 → ∀ I', w_fr pzZ I I' → zC I' G n K V P N R.2.1 R.2.2 → Q (some (w_i 1)) I' J b) (k0 : R.1 ≠ 0 → ∀ I', zB I I' R.1 (P R.2.1) → Q (some (w_i 0)) I' J b) : w_C xs xl 88 [.ref 8] I J b Q := by
  have hNN := hN.1.2
  have h9 := hz.2.1.1
  have c0b := hz.2.2.2.2.2.1
  have hcl := hz.2.2.2.2.2.2.1
  have hcr := hz.2.2.2.2.2.2.2
  have e98 := hz.2.2.2.2.1.2.2.2
  generalize h99 : I 9 9 = c0 at c0b
  refine e88 ?_
  unfold z_tru at hR
  by_cases c6 : (q_ru S).length = 6
  · rw [if_pos c6] at hR
    rw [← hR] at k0
    have fin : w_C xs xl 76 [.ref 8, w_i 2] I J b (fun v Ic Jc bc => w_T xs xl 88 17 [some (.ref 8), none, none, none, none] [] (w_pv v []) Ic Jc bc Q) := c76 hz.1.2 hNN h9 hh (fun I' f => b88_17 ⟨Or.inl rfl, k0 (by simp) I' f⟩)
    refine b88_0 ?_
    try simp only [w_Ug, reduceIte, Nat.reduceEqDiff, Int.reduceEq, eq_self, e98, h99]
    repeat' (first | apply And.intro | intro)
    all_goals (try first | omega | contradiction | exact Or.inl trivial | exact Or.inr trivial)
  · rw [if_neg c6] at hR
    generalize hr4 : (4 + ((q_ru S).length : Int)) = r4
    refine b88_0 ?_
    try simp only [w_Ug, reduceIte, Nat.reduceEqDiff, Int.reduceEq, eq_self, e98, h99, hr4]
    repeat' (first | apply And.intro | intro)
    all_goals (try first | omega | contradiction | exact Or.inl trivial | exact Or.inr trivial)
    have f1 : w_fr pzZ I (w_U I 13 r4 c0) := w_frU w_frr rfl
    refine c77r hN hR (zT_f hz.1.2 (w_Ua (by decide)) (w_Ua (by decide)) (w_Ua (by decide))) (by rw [w_Ua (by decide)]; exact h9) hh hk (fun x1 hR => ?_) (fun r I' f => ?_)
    · refine b88_48 ?_
      try simp only [w_Ug, reduceIte, Nat.reduceEqDiff, Int.reduceEq, eq_self, if_true]
      repeat' (first | apply And.intro | intro)
      all_goals (try first | omega | contradiction | exact Or.inl trivial | exact Or.inr trivial)
      have f2 : w_fr pzZ I (w_U (w_U I 13 r4 c0) 8 9 (h + 1)) := w_frU f1 rfl
      refine c78r hN hR (zT_f hz.1.2 (by rw [w_Ua (by decide), w_Ua (by decide)]) (by rw [w_Ua (by decide), w_Ua (by decide)]) (by rw [w_Ua (by decide), w_Ua (by decide)])) (by simp [w_Ug]) ⟨by omega, x1⟩ (by decide) (fun _ x2 hR => ?_) (fun r I' f => ?_)
      · rw [w_UU]
        have f3 : w_fr pzZ I (w_U (w_U I 13 r4 c0) 8 9 (h + 1 + 1)) := w_frU f1 rfl
        have t3 : zT (w_U (w_U I 13 r4 c0) 8 9 (h + 1 + 1)) K V P N := zT_f hz.1.2 (by rw [w_Ua (by decide), w_Ua (by decide)]) (by rw [w_Ua (by decide), w_Ua (by decide)]) (by rw [w_Ua (by decide), w_Ua (by decide)])
        have n9 : (w_U (w_U I 13 r4 c0) 8 9 (h + 1 + 1)) 8 9 = h + 1 + 1 := by simp [w_Ug]
        have o3 : zO (w_U (w_U I 13 r4 c0) 8 9 (h + 1 + 1)) c0 [] := ⟨by rw [w_Ua (by decide), w_Ua (by decide), h99]; show c0 = c0 + 0; omega, trivial⟩
        have d13 : (w_U (w_U I 13 r4 c0) 8 9 (h + 1 + 1)) 13 = u1 (I 13) r4 c0 := by rw [w_Ua (by decide), w_U1]
        have dA : ∀ a, a ≠ 8 → a ≠ 13 → (w_U (w_U I 13 r4 c0) 8 9 (h + 1 + 1)) a = I a := fun a x y => by rw [w_Ua x, w_Ua y]
        have d8 : ∀ k, k ≠ 9 → (w_U (w_U I 13 r4 c0) 8 9 (h + 1 + 1)) 8 k = I 8 k := fun k x => by rw [w_Ug, if_pos rfl, if_neg x, w_Ua (by decide)]
        generalize (w_U (w_U I 13 r4 c0) 8 9 (h + 1 + 1)) = I3 at f3 t3 n9 o3 d13 dA d8
        have hx := z_co_ok (V := V) hN (401 - (h + 1 + 1)).toNat (h + 1 + 1) 0 (by omega) x2 (Or.inl rfl)
        generalize hE0 : z_co K V (401 - (h + 1 + 1)).toNat (h + 1 + 1) 0 = E0 at hR hx
        obtain ⟨x3, x4, x5, x6⟩ := hx
        unfold z_tru2 at hR
        have bad : E0.1 ≠ 0 → ∀ I', zB I I' E0.1 (P E0.2.1) → Q (some (w_i 0)) I' J b := by
          intro e0 I' f
          rw [if_pos e0] at hR
          rw [← hR] at k0
          exact k0 e0 I' f
        have fin : E0.1 = 0 → ∀ I4, w_fr (pzX c0) I3 I4 → I4 8 9 = E0.2.1 → zO I4 c0 (z_rw E0.2.2 0) → c0 + (z_rw E0.2.2 0).length ≤ 4 + E0.2.1 → ∀ u2 u3 u4 : Option Value, w_C xs xl 78 [.ref 8, w_i 4] (w_U (w_U I4 14 r4 (I4 9 9)) 9 8 (I4 9 8 + 1)) J b (fun v Ic Jc bc => w_T xs xl 88 193 [some (.ref 8), some (w_i r4), u2, u3, u4] [] (w_pv v []) Ic Jc bc Q) := by
          intro e0 I4 g4 q9 qo qb u2 u3 u4
          obtain ⟨q99, qat⟩ := qo
          rw [if_neg (fun x => x e0)] at hR
          have a13 : I4 13 = u1 (I 13) r4 c0 := by rw [pzX_a g4 (by decide) (by decide) (by decide) (by decide), d13]
          have a14 : I4 14 = I 14 := by rw [pzX_a g4 (by decide) (by decide) (by decide) (by decide), dA 14 (by decide) (by decide)]
          have a12 : ∀ k, k < c0 → I4 12 k = I 12 k := fun k x => by rw [pzX_c g4 x, dA 12 (by decide) (by decide)]
          have a98 : I4 9 8 = (q_ru S).length := by rw [pzX_9 g4 (by decide), dA 9 (by decide) (by decide)]; exact e98
          rw [q99, a98]
          have hI : ∀ a, a ≠ 9 → a ≠ 14 → (w_U (w_U I4 14 r4 (c0 + (z_rw E0.2.2 0).length)) 9 8 ((q_ru S).length + 1)) a = I4 a := fun a x y => by rw [w_Ua x, w_Ua y]
          have hI9 : ∀ k, k ≠ 8 → (w_U (w_U I4 14 r4 (c0 + (z_rw E0.2.2 0).length)) 9 8 ((q_ru S).length + 1)) 9 k = I4 9 k := fun k x => by rw [w_Ug, if_pos rfl, if_neg x, w_Ua (by decide)]
          have hI14 : (w_U (w_U I4 14 r4 (c0 + (z_rw E0.2.2 0).length)) 9 8 ((q_ru S).length + 1)) 14 = u1 (I 14) r4 (c0 + (z_rw E0.2.2 0).length) := by rw [w_Ua (by decide), w_U1, a14]
          have hI98 : (w_U (w_U I4 14 r4 (c0 + (z_rw E0.2.2 0).length)) 9 8 ((q_ru S).length + 1)) 9 8 = (q_ru S).length + 1 := by rw [w_Ug, if_pos rfl, if_pos rfl]
          have f5 : w_fr pzZ I (w_U (w_U I4 14 r4 (c0 + (z_rw E0.2.2 0).length)) 9 8 ((q_ru S).length + 1)) := w_frU (w_frU (w_frt f3 (pzX_Z g4)) rfl) rfl
          generalize (w_U (w_U I4 14 r4 (c0 + (z_rw E0.2.2 0).length)) 9 8 ((q_ru S).length + 1)) = I5 at hI hI9 hI14 hI98 f5
          have q99' : I5 9 9 = c0 + (z_rw E0.2.2 0).length := by rw [hI9 9 (by decide)]; exact q99
          have z5 : zC I5 G n K V P N E0.2.1 (z_aru E0.2.2 S) := by
            refine zC_x hz h99 (fun a p1 p2 p3 p4 p5 p6 => ?_) (fun k p1 p2 => ?_) (fun k p1 p2 => ?_) (by rw [hI 8 (by decide) (by decide)]; exact q9) ?_ rfl rfl rfl rfl rfl rfl rfl rfl ?_ ?_ ?_
            · rw [hI a p2 p5, pzX_a g4 p1 p2 p3 p6, dA a p1 p4]
            · rw [hI 8 (by decide) (by decide), pzX_8 g4 p1 p2, d8 k p2]
            · rw [hI9 k p1, pzX_9 g4 p2, dA 9 (by decide) (by decide)]
            · rw [q99']; omega
            · rw [hI98]
              show _ = (((q_ru S ++ [E0.2.2]).length : Nat) : Int)
              rw [List.length_append]
              rfl
            · intro w' u1' u2'
              refine zCl_o hcl h99 ?_ ⟨u1', u2'⟩ ?_ ?_ (fun k p => ?_)
              · rw [q99']; omega
              · rw [hI 13 (by decide) (by decide), a13, u1g, if_neg (by omega)]
              · rw [hI14, u1g, if_neg (by omega)]
              · rw [hI 12 (by decide) (by decide)]; exact a12 k p
            · intro r L hr
              have hr : (q_ru S ++ [E0.2.2])[r]? = some L := hr
              by_cases e : r < (q_ru S).length
              · rw [List.getElem?_append_left e] at hr
                refine zCr_o hcr h99 ?_ hr ?_ ?_ (fun k p => ?_)
                · rw [q99']; omega
                · rw [hI 13 (by decide) (by decide), a13, u1g, if_neg (by omega)]
                · rw [hI14, u1g, if_neg (by omega)]
                · rw [hI 12 (by decide) (by decide)]; exact a12 k p
              · rw [List.getElem?_append_right (by omega)] at hr
                have hrl : r = (q_ru S).length := by
                  have := (List.getElem?_eq_some_iff.mp hr).1
                  simp at this
                  omega
                subst hrl
                rw [Nat.sub_self] at hr
                have hr : some E0.2.2 = some L := hr
                rw [← Option.some.inj hr, hI 13 (by decide) (by decide), a13, u1g, if_pos hr4, hI14, u1g, if_pos hr4, q99', hI 12 (by decide) (by decide)]
                exact ⟨c0b.1, rfl, Int.le_refl _, qat⟩
          refine c78z hN hR z5 ⟨x5, x4⟩ (by decide) (fun _ z7 x7 r7 => b88_193 ⟨Or.inr rfl, ?_⟩) (fun r I' f => b88_193 ⟨Or.inl rfl, k0 r I' (zB_f f f5)⟩)
          have r7 : (0, E0.2.1 + 1, z_aru E0.2.2 S) = R := r7
          rw [← r7] at k1
          exact k1 rfl _ (w_frU f5 rfl) z7
        have loop : ∀ (m : Nat) (h' aft o l4 : Int) (done : List Int) (I1 : w_I), 401 ≤ (m : Int) + h' → h + 2 ≤ h' → h' ≤ N → (0 ≤ l4 ∧ l4 + 2 ≤ h') → (aft = 0 ∨ aft = 1) → (o = 0 ∨ o = 1) → w_fr (pzX c0) I3 I1 → I1 8 9 = h' → zO I1 c0 done → c0 + done.length + aft + o ≤ 4 + h' → E0.1 = (z_co K V m h' aft).1 → E0.2.1 = (z_co K V m h' aft).2.1 → ((z_co K V m h' aft).1 = 0 → z_rw E0.2.2 0 = done ++ z_rw (z_co K V m h' aft).2.2 o) → w_T xs xl 88 69 [some (.ref 8), some (w_i r4), some (w_i aft), some (w_i o), some (w_i l4)] [] [] I1 J b Q := by
          intro m
          induction m with
          | zero =>
            intro h' aft o l4 done I1 a0 a1 a2
            omega
          | succ m ih =>
            intro h' aft o l4 done I1 a0 a1 a2 a3 a4 a5 a6 a7 a8 a9 a10 a11 a12
            have tT : ∀ {I2 : w_I}, w_fr (pzX c0) I3 I2 → zT I2 K V P N := fun f => zT_f t3 (w_frA f (fun _ => rfl)) (w_frA f (fun _ => rfl)) (w_frA f (fun _ => rfl))
            have lok := z_li_ok (V := V) hN (h := h') (aft := aft) ⟨by omega, a2⟩ a4
            unfold z_co at a10 a11 a12
            refine b88_69 ?_
            try simp only [w_Ug, reduceIte, Nat.reduceEqDiff, Int.reduceEq, eq_self, if_true]
            repeat' (first | apply And.intro | intro)
            all_goals (try first | omega | contradiction | exact Or.inl trivial | exact Or.inr trivial)
            refine c89 hN (tT a6) a7 ⟨by omega, a2⟩ a8.1 a4 (by omega) ?_ ?_
            all_goals generalize z_li K V h' aft = l at a10 a11 a12 lok
            all_goals obtain ⟨l1, l2, l3, l4'⟩ := lok
            · intro e0 I2 g2 q9 qo
              obtain ⟨m1, m2, m3, m4⟩ := l1 e0
              have ll := z_lw_len m1
              have m1' := m1
              obtain ⟨mm1, mm2, mm3, -, -⟩ := m1'
              have lc0 : 0 ≤ z_lc l.2.2 := by unfold z_lc; omega
              simp only [if_neg (fun x : l.1 ≠ 0 => x e0)] at a10 a11 a12
              have o2 := zO_a a8 rfl qo g2
              have hl2 := z_lena done (z_lw l.2.2)
              have f2 : w_fr (pzX c0) I3 I2 := w_frt a6 (pzX_m (by omega) g2)
              have T2 := tT f2
              have t15 := (T2 l.2.1 l3 l2).1
              have kb := (hN.2.2.2.1 l.2.1 l3 l2).1
              have bd2 : (K l.2.1 = 35 ∨ K l.2.1 = 34) → 400 ≤ l.2.1 → ∀ I', zB I I' 2 (P l.2.1) → Q (some (w_i 0)) I' J b := by
                intro d1 d2 I' f
                rw [if_pos d1, if_pos d2] at a10 a11
                rw [a10, a11] at bad
                exact bad (by simp) I' f
              -- passing on to the next literal
              have nxt : ∀ (aft' o' : Int) (done' : List Int) (I5 : w_I), (K l.2.1 = 35 ∨ K l.2.1 = 34) → aft' = (if K l.2.1 = 35 then 1 else 0) → (o' = 0 ∨ o' = 1) → w_fr (pzX c0) I3 I5 → I5 8 9 = l.2.1 → zO I5 c0 done' → c0 + done'.length + aft' + o' ≤ 4 + l.2.1 + 1 → (∀ L, z_ha L = aft' → done ++ z_rw (l.2.2 :: L) o = done' ++ z_rw L o') → w_C xs xl 77 [.ref 8] I5 J b (fun v Ic Jc bc => w_T xs xl 88 148 [some (.ref 8), some (w_i r4), some (w_i aft'), some (w_i o'), some (w_i l4)] [] (w_pv v []) Ic Jc bc Q) := by
                intro aft' o' done' I5 d1 d2 d3 d4 d5 d6 d7 d8
                refine c77 (tT d4) hNN d5 ⟨l3, l2⟩ (fun cc => ?_) (fun cc I' f => ?_)
                · rw [if_pos d1, if_neg (by omega), ← d2] at a10 a11 a12
                  have nx := zN_x hN ⟨l3, l2⟩ (by omega) (by omega)
                  have ha' : aft' = 0 ∨ aft' = 1 := by rw [d2]; split <;> omega
                  have cok := z_co_ok (V := V) hN m (l.2.1 + 1) aft' (by omega) nx ha'
                  have q := ih (l.2.1 + 1) aft' o' (l4 + 1) done' (w_U I5 8 9 (l.2.1 + 1)) (by omega) (by omega) nx (by omega) ha' d3 (w_frU d4 rfl) (by simp [w_Ug]) ⟨by rw [w_Ua (by decide)]; exact d6.1, by rw [w_Ua (by decide)]; exact d6.2⟩ (by omega) a10 a11 (fun x => by rw [a12 x]; exact d8 _ (cok.1 x).2.1)
                  refine b88_148 ?_
                  try simp only [w_Ug, reduceIte, Nat.reduceEqDiff, Int.reduceEq, eq_self, if_true]
                  repeat' (first | apply And.intro | intro)
                  all_goals (try first | omega | contradiction | exact Or.inl trivial | exact Or.inr trivial)
                · have kk := bd2 d1 cc I' (zB_f f (w_frt f3 (pzX_Z d4)))
                  refine b88_148 ?_
                  try simp only [w_Ug, reduceIte, Nat.reduceEqDiff, Int.reduceEq, eq_self, if_true]
                  repeat' (first | apply And.intro | intro)
                  all_goals (try first | omega | contradiction | exact Or.inl trivial | exact Or.inr trivial)
              have o34 : w_fr (pzX c0) I3 (w_U (w_U I2 12 (c0 + (done ++ z_lw l.2.2).length) 20034) 9 9 (c0 + (done ++ z_lw l.2.2).length + 1)) := w_frU (w_frU f2 (pzX_12 (by omega))) rfl
              have o3 := zO_w (x := 20034) o2
              have hl3 := z_lena (done ++ z_lw l.2.2) [20034]
              have h1 : ((([20034] : List Int).length : Nat) : Int) = 1 := rfl
              have q9' : (w_U (w_U I2 12 (c0 + (done ++ z_lw l.2.2).length) 20034) 9 9 (c0 + (done ++ z_lw l.2.2).length + 1)) 8 9 = l.2.1 := by rw [w_Ua (by decide), w_Ua (by decide)]; exact q9
              generalize hI3 : (w_U (w_U I2 12 (c0 + (done ++ z_lw l.2.2).length) 20034) 9 9 (c0 + (done ++ z_lw l.2.2).length + 1)) = I6 at o34 o3 q9'
              have t15' := ((tT o34) l.2.1 l3 l2).1
              by_cases c35 : K l.2.1 = 35
              · have q := nxt 1 o (done ++ z_lw l.2.2) I2 (Or.inl c35) (if_pos c35).symm a5 f2 q9 o2 (by omega) (fun L hL => by
                  show done ++ (z_lw l.2.2 ++ (if z_ha L = 1 then z_rw L o else _)) = _
                  rw [if_pos hL, List.append_assoc])
                refine b88_82 ?_
                try simp only [w_Ug, reduceIte, Nat.reduceEqDiff, Int.reduceEq, eq_self, q9, t15]
                repeat' (first | apply And.intro | intro)
                all_goals (try first | omega | contradiction | exact Or.inl trivial | exact Or.inr trivial)
              · by_cases c34 : K l.2.1 = 34
                · rcases a5 with rfl | rfl
                  · have q := nxt 0 1 (done ++ z_lw l.2.2) I2 (Or.inr c34) (if_neg c35).symm (Or.inr rfl) f2 q9 o2 (by omega) (fun L hL => by
                      show done ++ (z_lw l.2.2 ++ (if z_ha L = 1 then _ else (if (0 : Int) = 1 then [20034] else []) ++ z_rw L 1)) = _
                      rw [if_neg (by omega), if_neg (by decide), List.nil_append, List.append_assoc])
                    refine b88_82 ?_
                    try simp only [w_Ug, reduceIte, Nat.reduceEqDiff, Int.reduceEq, eq_self, q9, t15]
                    repeat' (first | apply And.intro | intro)
                    all_goals (try first | omega | contradiction | exact Or.inl trivial | exact Or.inr trivial)
                  · have q := nxt 0 1 ((done ++ z_lw l.2.2) ++ [20034]) I6 (Or.inr c34) (if_neg c35).symm (Or.inr rfl) o34 q9' o3 (by omega) (fun L hL => by
                      show done ++ (z_lw l.2.2 ++ (if z_ha L = 1 then _ else (if (1 : Int) = 1 then [20034] else []) ++ z_rw L 1)) = _
                      rw [if_neg (by omega), if_pos rfl]
                      simp)
                    refine b88_82 ?_
                    try simp only [w_Ug, reduceIte, Nat.reduceEqDiff, Int.reduceEq, eq_self, q9, t15]
                    repeat' (first | apply And.intro | intro)
                    all_goals (try first | omega | contradiction | exact Or.inl trivial | exact Or.inr trivial)
                    refine c102 o2.1 (by omega) ?_
                    rw [hI3]
                    refine b88_125 ?_
                    try simp only [w_Ug, reduceIte, Nat.reduceEqDiff, Int.reduceEq, eq_self, q9', t15']
                    repeat' (first | apply And.intro | intro)
                    all_goals (try first | omega | contradiction | exact Or.inl trivial | exact Or.inr trivial)
                · rw [if_neg (by omega)] at a10 a11 a12
                  have a12 := a12 rfl
                  have a10 : E0.1 = 0 := a10
                  have a11 : E0.2.1 = l.2.1 := a11
                  rcases a5 with rfl | rfl
                  · have e : done ++ z_lw l.2.2 = z_rw E0.2.2 0 := by
                      rw [a12]
                      show _ = done ++ (z_lw l.2.2 ++ [])
                      rw [List.append_nil]
                    rw [e] at o2 hl2
                    have q := fin a10 I2 f2 (by rw [a11]; exact q9) o2 (by omega)
                    refine b88_82 ?_
                    try simp only [w_Ug, reduceIte, Nat.reduceEqDiff, Int.reduceEq, eq_self, q9, t15]
                    repeat' (first | apply And.intro | intro)
                    all_goals (try first | omega | contradiction | exact Or.inl trivial | exact Or.inr trivial)
                    exact q _ _ _
                  · have e : (done ++ z_lw l.2.2) ++ [20034] = z_rw E0.2.2 0 := by
                      rw [a12]
                      show _ = done ++ (z_lw l.2.2 ++ [20034])
                      rw [List.append_assoc]
                    rw [e] at o3 hl3
                    have q := fin a10 I6 o34 (by rw [a11]; exact q9') o3 (by omega)
                    refine b88_82 ?_
                    try simp only [w_Ug, reduceIte, Nat.reduceEqDiff, Int.reduceEq, eq_self, q9, t15]
                    repeat' (first | apply And.intro | intro)
                    all_goals (try first | omega | contradiction | exact Or.inl trivial | exact Or.inr trivial)
                    refine c102 o2.1 (by omega) ?_
                    rw [hI3]
                    refine b88_125 ?_
                    try simp only [w_Ug, reduceIte, Nat.reduceEqDiff, Int.reduceEq, eq_self, q9', t15']
                    repeat' (first | apply And.intro | intro)
                    all_goals (try first | omega | contradiction | exact Or.inl trivial | exact Or.inr trivial)
                    exact q _ _ _
            · intro e0 I' f
              rw [if_pos e0] at a10 a11
              rw [a10, a11] at bad
              have kk := bad e0 I' (zB_f f (w_frt f3 (pzX_Z a6)))
              refine b88_82 ?_
              try simp only [w_Ug, reduceIte, Nat.reduceEqDiff, Int.reduceEq, eq_self, if_true]
              repeat' (first | apply And.intro | intro)
              all_goals (try first | omega | contradiction | exact Or.inl trivial | exact Or.inr trivial)
        have q := loop (401 - (h + 1 + 1)).toNat (h + 1 + 1) 0 0 0 [] I3 (by omega) (by omega) x2 (by omega) (Or.inl rfl) (Or.inl rfl) w_frr n9 o3 (by show c0 + 0 + 0 + 0 ≤ 4 + (h + 1 + 1); omega) (by rw [hE0]) (by rw [hE0]) (fun _ => by rw [hE0]; rfl)
        refine b88_57 ?_
        try simp only [w_Ug, reduceIte, Nat.reduceEqDiff, Int.reduceEq, eq_self, if_true]
        repeat' (first | apply And.intro | intro)
        all_goals (try first | omega | contradiction | exact Or.inl trivial | exact Or.inr trivial)
      · have kk := k0 r I' (zB_f f f2)
        refine b88_57 ?_
        try simp only [w_Ug, reduceIte, Nat.reduceEqDiff, Int.reduceEq, eq_self, if_true]
        repeat' (first | apply And.intro | intro)
        all_goals (try first | omega | contradiction | exact Or.inl trivial | exact Or.inr trivial)
    · have kk := k0 r I' (zB_f f f1)
      refine b88_48 ?_
      try simp only [w_Ug, reduceIte, Nat.reduceEqDiff, Int.reduceEq, eq_self, if_true]
      repeat' (first | apply And.intro | intro)
      all_goals (try first | omega | contradiction | exact Or.inl trivial | exact Or.inr trivial)
theorem c81 (hN : zN K V P N) (hM : zM G n K V P M N) (hz : zC I G n K V P N h S) (hq : zQ K h S) (hh : 0 ≤ h ∧ h ≤ N) {R : z_R} (hR : z_pt K V M h S = R) (k1 : R.1 = 0 → ∀ I', w_fr pzZ I I' → zC I' G n K V P N R.2.1 R.2.2 → Q (some (w_i 1)) I' J b) (k0 : R.1 ≠ 0 → ∀ I', zB I I' R.1 (P R.2.1) → Q (some (w_i 0)) I' J b) : w_C xs xl 81 [.ref 8] I J b Q := by
  have hNN := hN.1.2
  have e9 := hz.2.1.1
  have t15 := (hz.1.2 h hh.1 hh.2).1
  have kb := (hN.2.2.2.1 h hh.1 hh.2).1
  refine e81 ?_
  unfold z_pt at hR
  by_cases c1 : K h = 20
  · rw [if_pos c1] at hR
    have q : ∀ u : Option Value, w_C xs xl 82 [.ref 8] I J b (fun v Ic Jc bc => w_T xs xl 81 20 [some (.ref 8), u] [] (w_pv v []) Ic Jc bc Q) := fun u => c82 hN hM hz hq hh c1 hR (fun e I' f z => b81_20 ⟨Or.inr rfl, k1 e I' f z⟩) (fun e I' f => b81_20 ⟨Or.inl rfl, k0 e I' f⟩)
    refine b81_0 ?_
    try simp only [w_Ug, reduceIte, Nat.reduceEqDiff, Int.reduceEq, eq_self, e9, t15]
    repeat' (first | apply And.intro | intro)
    all_goals (try first | omega | contradiction | exact Or.inl trivial | exact Or.inr trivial)
    exact q _
  · rw [if_neg c1] at hR
    by_cases c2 : K h = 23 ∨ K h = 24
    · have hR : (if K h = 23 then z_ts K V h S else z_tn K V h S) = R := by
        by_cases c3 : K h = 23
        · rw [if_pos c3] at hR ⊢
          exact hR
        · rw [if_neg c3, if_pos (by omega)] at hR
          rw [if_neg c3]
          exact hR
      have q : ∀ u : Option Value, w_C xs xl 85 [.ref 8, w_i (K h)] I J b (fun v Ic Jc bc => w_T xs xl 81 38 [some (.ref 8), u] [] (w_pv v []) Ic Jc bc Q) := fun u => c85 hN hz hh c2 hR (fun e I' f z => b81_38 ⟨Or.inr rfl, k1 e I' f z⟩) (fun e I' f => b81_38 ⟨Or.inl rfl, k0 e I' f⟩)
      refine b81_0 ?_
      try simp only [w_Ug, reduceIte, Nat.reduceEqDiff, Int.reduceEq, eq_self, e9, t15]
      repeat' (first | apply And.intro | intro)
      all_goals (try first | omega | contradiction | exact Or.inl trivial | exact Or.inr trivial)
      all_goals exact q _
    · rw [if_neg (by omega), if_neg (by omega)] at hR
      by_cases c4 : K h = 25
      · rw [if_pos c4] at hR
        have q : ∀ u : Option Value, w_C xs xl 86 [.ref 8] I J b (fun v Ic Jc bc => w_T xs xl 81 49 [some (.ref 8), u] [] (w_pv v []) Ic Jc bc Q) := fun u => c86 hN hz hh c4 hR (fun e I' f z => b81_49 ⟨Or.inr rfl, k1 e I' f z⟩) (fun e I' f => b81_49 ⟨Or.inl rfl, k0 e I' f⟩)
        refine b81_0 ?_
        try simp only [w_Ug, reduceIte, Nat.reduceEqDiff, Int.reduceEq, eq_self, e9, t15]
        repeat' (first | apply And.intro | intro)
        all_goals (try first | omega | contradiction | exact Or.inl trivial | exact Or.inr trivial)
        exact q _
      · rw [if_neg c4] at hR
        by_cases c5 : 28 ≤ K h ∧ K h ≤ 31
        · rw [if_pos c5] at hR
          have q : ∀ u : Option Value, w_C xs xl 87 [.ref 8, w_i (K h - 28)] I J b (fun v Ic Jc bc => w_T xs xl 81 70 [some (.ref 8), u] [] (w_pv v []) Ic Jc bc Q) := fun u => c87 hN hz hh (by omega) (by omega) hR (fun e I' f z => b81_70 ⟨Or.inr rfl, k1 e I' f z⟩) (fun e I' f => b81_70 ⟨Or.inl rfl, k0 e I' f⟩)
          refine b81_0 ?_
          try simp only [w_Ug, reduceIte, Nat.reduceEqDiff, Int.reduceEq, eq_self, e9, t15]
          repeat' (first | apply And.intro | intro)
          all_goals (try first | omega | contradiction | exact Or.inl trivial | exact Or.inr trivial)
          exact q _
        · rw [if_neg c5] at hR
          by_cases c6 : K h = 32
          · rw [if_pos c6] at hR
            have q : ∀ u : Option Value, w_C xs xl 88 [.ref 8] I J b (fun v Ic Jc bc => w_T xs xl 81 81 [some (.ref 8), u] [] (w_pv v []) Ic Jc bc Q) := fun u => c88 hN hz hh (by omega) hq.1.2.2.2 hR (fun e I' f z => b81_81 ⟨Or.inr rfl, k1 e I' f z⟩) (fun e I' f => b81_81 ⟨Or.inl rfl, k0 e I' f⟩)
            refine b81_0 ?_
            try simp only [w_Ug, reduceIte, Nat.reduceEqDiff, Int.reduceEq, eq_self, e9, t15]
            repeat' (first | apply And.intro | intro)
            all_goals (try first | omega | contradiction | exact Or.inl trivial | exact Or.inr trivial)
            all_goals exact q _
          · rw [if_neg c6] at hR
            rw [← hR] at k0
            have q : ∀ u : Option Value, w_C xs xl 76 [.ref 8, w_i 1] I J b (fun v Ic Jc bc => w_T xs xl 81 89 [some (.ref 8), u] [] (w_pv v []) Ic Jc bc Q) := fun u => c76 hz.1.2 hNN e9 hh (fun I' f => b81_89 ⟨Or.inl rfl, k0 (by simp) I' f⟩)
            refine b81_0 ?_
            try simp only [w_Ug, reduceIte, Nat.reduceEqDiff, Int.reduceEq, eq_self, e9, t15]
            repeat' (first | apply And.intro | intro)
            all_goals (try first | omega | contradiction | exact Or.inl trivial | exact Or.inr trivial)
            all_goals exact q _
end
