section
/-! reading, the class: one tell -/
variable {xs : Nat → Int32} {xl : Nat} {I J : w_I} {b : Bool} {Q : Option Value → w_I → w_I → Bool → Prop}
variable {G K V P M : Int → Int} {n N h : Int} {S : z_S}
theorem zC_9 {S' : z_S} {I' : w_I} (hz : zC I G n K V P N h S) (f : ∀ a, a ≠ 9 → I' a = I a) (f9 : ∀ k, k ≠ 6 → k ≠ 7 → k ≠ 10 → I' 9 k = I 9 k) (s1 : q_sd S' = q_sd S) (s2 : q_gd S' = q_gd S) (s3 : q_tk S' = q_tk S) (s4 : q_lw S' = q_lw S) (s5 : q_ru S' = q_ru S) (s6 : q_ln S' = q_ln S) (s7 : q_li S' = q_li S) (g1 : I' 9 6 = q_st S') (g2 : I' 9 7 = q_la S') (g3 : I' 9 10 = q_by S') : zC I' G n K V P N h S' := by
  obtain ⟨⟨g, t⟩, a, l, ⟨b1, b2, b3, b4⟩, ⟨c1, c2, c3, c4⟩, d, e1, e2⟩ := hz
  refine ⟨⟨zG_f g (by rw [f 8 (by decide)]) (f 1 (by decide)), zT_f t (f 15 (by decide)) (f 16 (by decide)) (f 17 (by decide))⟩, ?_, ?_, ?_, ⟨g1, g2, g3, ?_⟩, ?_, ?_, ?_⟩
  · rw [f 8 (by decide)]; exact a
  · rw [f 8 (by decide), s6, s7]; exact l
  · rw [f9 5 (by decide) (by decide) (by decide), f 10 (by decide), f 11 (by decide), f 18 (by decide), s1, s2, s3]
    exact ⟨b1, b2, b3, b4⟩
  · rw [f9 8 (by decide) (by decide) (by decide), s5]; exact c4
  · rw [f9 9 (by decide) (by decide) (by decide)]; exact d
  · have := zCl_f (I' := I') e1 (f9 9 (by decide) (by decide) (by decide)) (f 12 (by decide)) (f 13 (by decide)) (f 14 (by decide))
    unfold zCl at this ⊢
    rw [s4]
    exact this
  · have := zCr_f (I' := I') e2 (f9 9 (by decide) (by decide) (by decide)) (f 12 (by decide)) (f 13 (by decide)) (f 14 (by decide))
    unfold zCr at this ⊢
    rw [s5]
    exact this
theorem zC_h {t side g : Int} (hz : zC I G n K V P N h S) (h18 : I 18 (q_sd S).length = t) (l1 : (q_gd S).length = (q_sd S).length) (l2 : (q_tk S).length = (q_sd S).length) : zC (w_U (w_U (w_U I 10 (q_sd S).length side) 11 (q_sd S).length g) 9 5 ((q_sd S).length + 1)) G n K V P N h (z_ah t side g S) := by
  obtain ⟨⟨gg, tt⟩, a, l, ⟨b1, b2, b3, b4⟩, ⟨c1, c2, c3, c4⟩, d, e1, e2⟩ := hz
  have f : ∀ a, a ≠ 9 → a ≠ 10 → a ≠ 11 → (w_U (w_U (w_U I 10 (q_sd S).length side) 11 (q_sd S).length g) 9 5 ((q_sd S).length + 1)) a = I a := fun a x y z => by rw [w_Ua x, w_Ua z, w_Ua y]
  have f9 : ∀ k, k ≠ 5 → (w_U (w_U (w_U I 10 (q_sd S).length side) 11 (q_sd S).length g) 9 5 ((q_sd S).length + 1)) 9 k = I 9 k := fun k x => by rw [w_Ug, if_pos rfl, if_neg x, w_Ua (by decide), w_Ua (by decide)]
  refine ⟨⟨zG_f gg (by rw [f 8 (by decide) (by decide) (by decide)]) (f 1 (by decide) (by decide) (by decide)), zT_f tt (f 15 (by decide) (by decide) (by decide)) (f 16 (by decide) (by decide) (by decide)) (f 17 (by decide) (by decide) (by decide))⟩, ?_, ?_, ⟨?_, ?_, ?_, ?_⟩, ⟨?_, ?_, ?_, ?_⟩, ?_, ?_, ?_⟩
  · rw [f 8 (by decide) (by decide) (by decide)]; exact a
  · rw [f 8 (by decide) (by decide) (by decide)]; exact l
  · rw [w_Ug, if_pos rfl, if_pos rfl]
    show _ = (((q_sd S ++ [side]).length : Nat) : Int)
    rw [z_lena]
    rfl
  · rw [w_Ua (by decide), w_Ua (by decide), w_U1]
    refine z_at_a _ _ _ (z_at_c _ _ (fun j x y => by rw [u1g, if_neg (by omega)]) b2) ⟨?_, trivial⟩
    rw [u1g, if_pos (by omega)]
  · rw [w_Ua (by decide), w_U1, w_Ua (by decide)]
    refine z_at_a _ _ _ (z_at_c _ _ (fun j x y => by rw [u1g, if_neg (by omega)]) b3) ⟨?_, trivial⟩
    rw [u1g, if_pos (by omega)]
  · rw [f 18 (by decide) (by decide) (by decide)]
    refine z_at_a _ _ _ b4 ⟨?_, trivial⟩
    rw [show (0 : Int) + ((q_tk S).length : Int) = (q_sd S).length by omega]
    exact h18
  · rw [f9 6 (by decide)]; exact c1
  · rw [f9 7 (by decide)]; exact c2
  · rw [f9 10 (by decide)]; exact c3
  · rw [f9 8 (by decide)]; exact c4
  · rw [f9 9 (by decide)]; exact d
  · exact zCl_f e1 (f9 9 (by decide)) (f 12 (by decide) (by decide) (by decide)) (f 13 (by decide) (by decide) (by decide)) (f 14 (by decide) (by decide) (by decide))
  · exact zCr_f e2 (f9 9 (by decide)) (f 12 (by decide) (by decide) (by decide)) (f 13 (by decide) (by decide) (by decide)) (f 14 (by decide) (by decide) (by decide))
/-- code is new -/
theorem zC_x {h' c0 : Int} {S' : z_S} {I' : w_I} (hz : zC I G n K V P N h S) (h99 : I 9 9 = c0) (f : ∀ a, a ≠ 8 → a ≠ 9 → a ≠ 12 → a ≠ 13 → a ≠ 14 → a ≠ 19 → I' a = I a) (f8 : ∀ k, k ≠ 7 → k ≠ 9 → I' 8 k = I 8 k) (f9 : ∀ k, k ≠ 8 → k ≠ 9 → I' 9 k = I 9 k) (h9 : I' 8 9 = h') (c1 : c0 ≤ I' 9 9 ∧ I' 9 9 ≤ 4 + h') (s1 : q_sd S' = q_sd S) (s2 : q_gd S' = q_gd S) (s3 : q_tk S' = q_tk S) (s4 : q_st S' = q_st S) (s5 : q_la S' = q_la S) (s8 : q_by S' = q_by S) (s6 : q_ln S' = q_ln S) (s7 : q_li S' = q_li S) (hru : I' 9 8 = (q_ru S').length) (hl : zCl I' S') (hr : zCr I' S') : zC I' G n K V P N h' S' := by
  obtain ⟨⟨g, t⟩, ⟨a1, a2⟩, l, ⟨b1, b2, b3, b4⟩, ⟨d1, d2, d3, d4⟩, d, e1, e2⟩ := hz
  refine ⟨⟨zG_f g (f8 8 (by decide) (by decide)) (f 1 (by decide) (by decide) (by decide) (by decide) (by decide) (by decide)), zT_f t (f 15 (by decide) (by decide) (by decide) (by decide) (by decide) (by decide)) (f 16 (by decide) (by decide) (by decide) (by decide) (by decide) (by decide)) (f 17 (by decide) (by decide) (by decide) (by decide) (by decide) (by decide))⟩, ⟨h9, ?_⟩, ?_, ?_, ⟨?_, ?_, ?_, hru⟩, ⟨by omega, c1.2⟩, hl, hr⟩
  · rw [f8 10 (by decide) (by decide)]; exact a2
  · rw [f8 12 (by decide) (by decide), f8 13 (by decide) (by decide), s6, s7]; exact l
  · rw [f9 5 (by decide) (by decide), f 10 (by decide) (by decide) (by decide) (by decide) (by decide) (by decide), f 11 (by decide) (by decide) (by decide) (by decide) (by decide) (by decide), f 18 (by decide) (by decide) (by decide) (by decide) (by decide) (by decide), s1, s2, s3]
    exact ⟨b1, b2, b3, b4⟩
  · rw [f9 6 (by decide) (by decide), s4]; exact d1
  · rw [f9 7 (by decide) (by decide), s5]; exact d2
  · rw [f9 10 (by decide) (by decide), s8]; exact d3
theorem c82 (hN : zN K V P N) (hM : zM G n K V P M N) (hz : zC I G n K V P N h S) (hq : zQ K h S) (hh : 0 ≤ h ∧ h ≤ N) (hK : K h = 20) {R : z_R} (hR : z_th K V M h S = R) (k1 : R.1 = 0 → ∀ I', w_fr pzZ I I' → zC I' G n K V P N R.2.1 R.2.2 → Q (some (w_i 1)) I' J b) (k0 : R.1 ≠ 0 → ∀ I', zB I I' R.1 (P R.2.1) → Q (some (w_i 0)) I' J b) : w_C xs xl 82 [.ref 8] I J b Q := by
  have hNN := hN.1.2
  have e95 := hz.2.2.2.1.1
  have e9 := hz.2.1.1
  have hlen := hq.1.2.2.1
  refine e82 ?_
  unfold z_th at hR
  by_cases c24 : (q_sd S).length = 24
  · rw [if_pos c24] at hR
    rw [← hR] at k0
    have fin : w_C xs xl 76 [.ref 8, w_i 2] I J b (fun v Ic Jc bc => w_T xs xl 82 17 [some (.ref 8), none, none] [] (w_pv v []) Ic Jc bc Q) := c76 hz.1.2 hNN e9 hh (fun I' f => b82_17 ⟨Or.inl rfl, k0 (by simp) I' f⟩)
    refine b82_0 ?_
    try simp only [w_Ug, reduceIte, Nat.reduceEqDiff, Int.reduceEq, eq_self, e95, e9]
    repeat' (first | apply And.intro | intro)
    all_goals (try first | omega | contradiction | exact Or.inl trivial | exact Or.inr trivial)
  · rw [if_neg c24] at hR
    refine b82_0 ?_
    try simp only [w_Ug, reduceIte, Nat.reduceEqDiff, Int.reduceEq, eq_self, e95, e9]
    repeat' (first | apply And.intro | intro)
    all_goals (try first | omega | contradiction | exact Or.inl trivial | exact Or.inr trivial)
    refine c77z hN hR hz hh (by omega) (fun z1 x1 hR => ?_) (fun r I' f => ?_)
    · have f1 : w_fr pzZ I (w_U I 8 9 (h + 1)) := w_frU w_frr rfl
      generalize w_U I 8 9 (h + 1) = I1 at z1 f1
      refine b82_29 ?_
      try simp only [w_Ug, reduceIte, Nat.reduceEqDiff, Int.reduceEq, eq_self, if_true]
      repeat' (first | apply And.intro | intro)
      all_goals (try first | omega | contradiction | exact Or.inl trivial | exact Or.inr trivial)
      refine c78z hN hR z1 ⟨by omega, x1⟩ (by decide) (fun k2 z2 x2 hR => ?_) (fun r I' f => ?_)
      · have f2 : w_fr pzZ I (w_U I1 8 9 (h + 1 + 1)) := w_frU f1 rfl
        generalize w_U I1 8 9 (h + 1 + 1) = I2 at z2 f2
        have hq2 : zQ K (h + 1 + 1) S := zQ_m hq (by omega)
        refine b82_37 ?_
        try simp only [w_Ug, reduceIte, Nat.reduceEqDiff, Int.reduceEq, eq_self, if_true]
        repeat' (first | apply And.intro | intro)
        all_goals (try first | omega | contradiction | exact Or.inl trivial | exact Or.inr trivial)
        refine c83 hN hM z2 hq2 ⟨by omega, x2⟩ ⟨by omega, by omega⟩ k2 (by omega) (fun I3 g3 gz3 z3 e18 => ?_)
        have f3 := w_frt f2 gz3
        have sl : zSl S (z_nn M (h + 1) S) := by
          unfold z_nn
          split
          · exact zSl_nl
          · exact zSl_r
        have l0 : (q_sd (z_nn M (h + 1) S)).length = (q_sd S).length := by rw [sl.1]
        have l1 : (q_gd (z_nn M (h + 1) S)).length = (q_sd (z_nn M (h + 1) S)).length := by rw [sl.1, sl.2.1]; exact hq.1.1
        have l2 : (q_tk (z_nn M (h + 1) S)).length = (q_sd (z_nn M (h + 1) S)).length := by rw [sl.1, sl.2.2.1]; exact hq.1.2.1
        have fin : ∀ (h3 side : Int) (I4 : w_I) (u : Option Value), zC I4 G n K V P N h3 (z_nn M (h + 1) S) → I4 18 (q_sd S).length = h + 1 → w_fr pzZ I I4 → (h + 1 + 1 ≤ h3 ∧ h3 ≤ N) → z_th2 K V M (h + 1 + 1 - 1) h3 side S = R → w_C xs xl 80 [.ref 8, w_i 0, w_i 99] (w_U (w_U (w_U I4 10 (q_sd S).length side) 11 (q_sd S).length (V h3)) 9 5 ((q_sd S).length + 1)) J b (fun v Ic Jc bc => w_T xs xl 82 158 [some (.ref 8), u, some (w_i side)] [] (w_pv v []) Ic Jc bc Q) := by
          intro h3 side I4 u z4 e4 f4 y4 r4
          rw [show h + 1 + 1 - 1 = h + 1 by omega] at r4
          have zA := zC_h (t := h + 1) (side := side) (g := V h3) z4 (by rw [l0]; exact e4) l1 l2
          rw [l0] at zA
          have f5 : w_fr pzZ I (w_U (w_U (w_U I4 10 (q_sd S).length side) 11 (q_sd S).length (V h3)) 9 5 ((q_sd S).length + 1)) := w_frU (w_frU (w_frU f4 rfl) rfl) rfl
          generalize (w_U (w_U (w_U I4 10 (q_sd S).length side) 11 (q_sd S).length (V h3)) 9 5 ((q_sd S).length + 1)) = I5 at zA f5
          refine c80z hN r4 zA ⟨by omega, y4.2⟩ (by decide) (fun I6 S2 f6 z6 x6 r6 => ?_) (fun r I' f => ?_)
          · have f7 := w_frt f5 f6
            refine b82_158 ?_
            try simp only [w_Ug, reduceIte, Nat.reduceEqDiff, Int.reduceEq, eq_self, if_true]
            repeat' (first | apply And.intro | intro)
            all_goals (try first | omega | contradiction | exact Or.inl trivial | exact Or.inr trivial)
            refine c78z hN r6 z6 ⟨by omega, x6⟩ (by decide) (fun _ z7 x7 r7 => ?_) (fun r I' f => ?_)
            · have r7 : (0, h3 + 1 + 1, S2) = R := r7
              rw [← r7] at k1
              have kk := k1 rfl _ (w_frU f7 rfl) z7
              refine b82_166 ?_
              try simp only [w_Ug, reduceIte, Nat.reduceEqDiff, Int.reduceEq, eq_self, if_true]
              repeat' (first | apply And.intro | intro)
              all_goals (try first | omega | contradiction | exact Or.inl trivial | exact Or.inr trivial)
            · have kk := k0 r I' (zB_f f f7)
              refine b82_166 ?_
              try simp only [w_Ug, reduceIte, Nat.reduceEqDiff, Int.reduceEq, eq_self, if_true]
              repeat' (first | apply And.intro | intro)
              all_goals (try first | omega | contradiction | exact Or.inl trivial | exact Or.inr trivial)
          · have kk := k0 r I' (zB_f f f5)
            refine b82_158 ?_
            try simp only [w_Ug, reduceIte, Nat.reduceEqDiff, Int.reduceEq, eq_self, if_true]
            repeat' (first | apply And.intro | intro)
            all_goals (try first | omega | contradiction | exact Or.inl trivial | exact Or.inr trivial)
        have q9 := z3.2.1.1
        have q5 := z3.2.2.2.1.1
        rw [l0] at q5
        obtain ⟨t15, t16, -⟩ := z3.1.2 (h + 1 + 1) (by omega) x2
        have kb := (hN.2.2.2.1 (h + 1 + 1) (by omega) x2).1
        have pas : ∀ (side : Int) (u : Option Value), 2 ≤ K (h + 1 + 1) → z_pa (h + 1 + 1) S (fun h3 => z_th2 K V M (h + 1 + 1 - 1) h3 side S) = R → w_C xs xl 77 [.ref 8] I3 J b (fun v Ic Jc bc => w_T xs xl 82 93 [some (.ref 8), u, some (w_i side)] [] (w_pv v []) Ic Jc bc Q) := by
          intro side u hk r3
          refine c77z hN r3 z3 ⟨by omega, x2⟩ hk (fun z4 x4 r4 => ?_) (fun r I' f => ?_)
          · have f4 : w_fr pzZ I (w_U I3 8 9 (h + 1 + 1 + 1)) := w_frU f3 rfl
            have e4 : (w_U I3 8 9 (h + 1 + 1 + 1)) 18 (q_sd S).length = h + 1 := by rw [w_Ua (by decide)]; exact e18
            generalize w_U I3 8 9 (h + 1 + 1 + 1) = I4 at z4 f4 e4
            have p9 := z4.2.1.1
            have p5 := z4.2.2.2.1.1
            rw [l0] at p5
            have p16 := (z4.1.2 (h + 1 + 1 + 1) (by omega) x4).2.1
            have q := fin (h + 1 + 1 + 1) side I4 u z4 e4 f4 ⟨by omega, x4⟩ r4
            refine b82_93 ?_
            try simp only [w_Ug, reduceIte, Nat.reduceEqDiff, Int.reduceEq, eq_self, p9, p5, p16]
            repeat' (first | apply And.intro | intro)
            all_goals (try first | omega | contradiction | exact Or.inl trivial | exact Or.inr trivial)
          · have kk := k0 r I' (zB_f f f3)
            refine b82_93 ?_
            try simp only [w_Ug, reduceIte, Nat.reduceEqDiff, Int.reduceEq, eq_self, if_true]
            repeat' (first | apply And.intro | intro)
            all_goals (try first | omega | contradiction | exact Or.inl trivial | exact Or.inr trivial)
        unfold z_th1 at hR
        by_cases c21 : K (h + 1 + 1) = 21
        · rw [if_pos c21] at hR
          have q := pas 1
          refine b82_47 ?_
          try simp only [w_Ug, reduceIte, Nat.reduceEqDiff, Int.reduceEq, eq_self, q9, q5, t15, t16]
          repeat' (first | apply And.intro | intro)
          all_goals (try first | omega | contradiction | exact Or.inl trivial | exact Or.inr trivial)
          exact q _ (by omega) hR
        · rw [if_neg c21] at hR
          by_cases c22 : K (h + 1 + 1) = 22
          · rw [if_pos c22] at hR
            have q := pas 2
            refine b82_47 ?_
            try simp only [w_Ug, reduceIte, Nat.reduceEqDiff, Int.reduceEq, eq_self, q9, q5, t15, t16]
            repeat' (first | apply And.intro | intro)
            all_goals (try first | omega | contradiction | exact Or.inl trivial | exact Or.inr trivial)
            exact q _ (by omega) hR
          · rw [if_neg c22] at hR
            have q := fun u => fin (h + 1 + 1) 0 I3 u z3 e18 f3 ⟨by omega, x2⟩ hR
            refine b82_47 ?_
            try simp only [w_Ug, reduceIte, Nat.reduceEqDiff, Int.reduceEq, eq_self, q9, q5, t15, t16]
            repeat' (first | apply And.intro | intro)
            all_goals (try first | omega | contradiction | exact Or.inl trivial | exact Or.inr trivial)
            exact q _
      · have kk := k0 r I' (zB_f f f1)
        refine b82_37 ?_
        try simp only [w_Ug, reduceIte, Nat.reduceEqDiff, Int.reduceEq, eq_self, if_true]
        repeat' (first | apply And.intro | intro)
        all_goals (try first | omega | contradiction | exact Or.inl trivial | exact Or.inr trivial)
    · have kk := k0 r I' f
      refine b82_29 ?_
      try simp only [w_Ug, reduceIte, Nat.reduceEqDiff, Int.reduceEq, eq_self, if_true]
      repeat' (first | apply And.intro | intro)
      all_goals (try first | omega | contradiction | exact Or.inl trivial | exact Or.inr trivial)
theorem c85 (hN : zN K V P N) (hz : zC I G n K V P N h S) (hh : 0 ≤ h ∧ h ≤ N) (hK : K h = 23 ∨ K h = 24) {R : z_R} (hR : (if K h = 23 then z_ts K V h S else z_tn K V h S) = R) (k1 : R.1 = 0 → ∀ I', w_fr pzZ I I' → zC I' G n K V P N R.2.1 R.2.2 → Q (some (w_i 1)) I' J b) (k0 : R.1 ≠ 0 → ∀ I', zB I I' R.1 (P R.2.1) → Q (some (w_i 0)) I' J b) : w_C xs xl 85 [.ref 8, w_i (K h)] I J b Q := by
  have hNN := hN.1.2
  refine e85 (b85_0 ?_)
  by_cases c : K h = 23
  · rw [if_pos c] at hR
    unfold z_ts at hR
    refine c77z hN hR hz hh (by omega) (fun z1 x1 hR => ?_) (fun r I' f => ?_)
    · have f1 : w_fr pzZ I (w_U I 8 9 (h + 1)) := w_frU w_frr rfl
      generalize w_U I 8 9 (h + 1) = I1 at z1 f1
      have q9 := z1.2.1.1
      have t16 := (z1.1.2 (h + 1) (by omega) x1).2.1
      have z2 : zC (w_U I1 9 6 (V (h + 1))) G n K V P N (h + 1) (z_ast (V (h + 1)) S) := zC_9 z1 (fun a x => w_Ua x) (fun k x y z => by rw [w_Ug, if_pos rfl, if_neg x]) rfl rfl rfl rfl rfl rfl rfl (by simp [w_Ug, z_ast]) (by simp [w_Ug, z_ast]; exact z1.2.2.2.2.1.2.1) (by simp [w_Ug, z_ast]; exact z1.2.2.2.2.1.2.2.1)
      have f2 : w_fr pzZ I (w_U I1 9 6 (V (h + 1))) := w_frU f1 rfl
      refine b85_4 ?_
      try simp only [w_Ug, reduceIte, Nat.reduceEqDiff, Int.reduceEq, eq_self, q9, t16]
      repeat' (first | apply And.intro | intro)
      all_goals (try first | omega | contradiction | exact Or.inl trivial | exact Or.inr trivial)
      generalize w_U I1 9 6 (V (h + 1)) = I2 at z2 f2
      refine c80z hN hR z2 ⟨by omega, x1⟩ (by decide) (fun I6 S2 f6 z6 x6 r6 => ?_) (fun r I' f => ?_)
      · have f7 := w_frt f2 f6
        refine b85_38 ?_
        try simp only [w_Ug, reduceIte, Nat.reduceEqDiff, Int.reduceEq, eq_self, if_true]
        repeat' (first | apply And.intro | intro)
        all_goals (try first | omega | contradiction | exact Or.inl trivial | exact Or.inr trivial)
        refine c78z hN r6 z6 ⟨by omega, x6⟩ (by decide) (fun _ z7 x7 r7 => ?_) (fun r I' f => ?_)
        · have r7 : (0, h + 1 + 1 + 1, S2) = R := r7
          rw [← r7] at k1
          have kk := k1 rfl _ (w_frU f7 rfl) z7
          refine b85_46 ?_
          try simp only [w_Ug, reduceIte, Nat.reduceEqDiff, Int.reduceEq, eq_self, if_true]
          repeat' (first | apply And.intro | intro)
          all_goals (try first | omega | contradiction | exact Or.inl trivial | exact Or.inr trivial)
        · have kk := k0 r I' (zB_f f f7)
          refine b85_46 ?_
          try simp only [w_Ug, reduceIte, Nat.reduceEqDiff, Int.reduceEq, eq_self, if_true]
          repeat' (first | apply And.intro | intro)
          all_goals (try first | omega | contradiction | exact Or.inl trivial | exact Or.inr trivial)
      · have kk := k0 r I' (zB_f f f2)
        refine b85_38 ?_
        try simp only [w_Ug, reduceIte, Nat.reduceEqDiff, Int.reduceEq, eq_self, if_true]
        repeat' (first | apply And.intro | intro)
        all_goals (try first | omega | contradiction | exact Or.inl trivial | exact Or.inr trivial)
    · have kk := k0 r I' f
      refine b85_4 ?_
      try simp only [w_Ug, reduceIte, Nat.reduceEqDiff, Int.reduceEq, eq_self, if_true]
      repeat' (first | apply And.intro | intro)
      all_goals (try first | omega | contradiction | exact Or.inl trivial | exact Or.inr trivial)
  · rw [if_neg c] at hR
    unfold z_tn at hR
    refine c77z hN hR hz hh (by omega) (fun z1 x1 hR => ?_) (fun r I' f => ?_)
    · have f1 : w_fr pzZ I (w_U I 8 9 (h + 1)) := w_frU w_frr rfl
      generalize w_U I 8 9 (h + 1) = I1 at z1 f1
      have q9 := z1.2.1.1
      have t16 := (z1.1.2 (h + 1) (by omega) x1).2.1
      have z2 : zC (w_U I1 9 7 (V (h + 1))) G n K V P N (h + 1) (z_ala (V (h + 1)) S) := zC_9 z1 (fun a x => w_Ua x) (fun k x y z => by rw [w_Ug, if_pos rfl, if_neg y]) rfl rfl rfl rfl rfl rfl rfl (by simp [w_Ug, z_ala]; exact z1.2.2.2.2.1.1) (by simp [w_Ug, z_ala]) (by simp [w_Ug, z_ala]; exact z1.2.2.2.2.1.2.2.1)
      have f2 : w_fr pzZ I (w_U I1 9 7 (V (h + 1))) := w_frU f1 rfl
      refine b85_4 ?_
      try simp only [w_Ug, reduceIte, Nat.reduceEqDiff, Int.reduceEq, eq_self, q9, t16]
      repeat' (first | apply And.intro | intro)
      all_goals (try first | omega | contradiction | exact Or.inl trivial | exact Or.inr trivial)
      generalize w_U I1 9 7 (V (h + 1)) = I2 at z2 f2
      refine c80z hN hR z2 ⟨by omega, x1⟩ (by decide) (fun I6 S2 f6 z6 x6 r6 => ?_) (fun r I' f => ?_)
      · have f7 := w_frt f2 f6
        refine b85_78 ?_
        try simp only [w_Ug, reduceIte, Nat.reduceEqDiff, Int.reduceEq, eq_self, if_true]
        repeat' (first | apply And.intro | intro)
        all_goals (try first | omega | contradiction | exact Or.inl trivial | exact Or.inr trivial)
        refine c78z hN r6 z6 ⟨by omega, x6⟩ (by decide) (fun _ z7 x7 r7 => ?_) (fun r I' f => ?_)
        · have r7 : (0, h + 1 + 1 + 1, S2) = R := r7
          rw [← r7] at k1
          have kk := k1 rfl _ (w_frU f7 rfl) z7
          refine b85_86 ?_
          try simp only [w_Ug, reduceIte, Nat.reduceEqDiff, Int.reduceEq, eq_self, if_true]
          repeat' (first | apply And.intro | intro)
          all_goals (try first | omega | contradiction | exact Or.inl trivial | exact Or.inr trivial)
        · have kk := k0 r I' (zB_f f f7)
          refine b85_86 ?_
          try simp only [w_Ug, reduceIte, Nat.reduceEqDiff, Int.reduceEq, eq_self, if_true]
          repeat' (first | apply And.intro | intro)
          all_goals (try first | omega | contradiction | exact Or.inl trivial | exact Or.inr trivial)
      · have kk := k0 r I' (zB_f f f2)
        refine b85_78 ?_
        try simp only [w_Ug, reduceIte, Nat.reduceEqDiff, Int.reduceEq, eq_self, if_true]
        repeat' (first | apply And.intro | intro)
        all_goals (try first | omega | contradiction | exact Or.inl trivial | exact Or.inr trivial)
    · have kk := k0 r I' f
      refine b85_4 ?_
      try simp only [w_Ug, reduceIte, Nat.reduceEqDiff, Int.reduceEq, eq_self, if_true]
      repeat' (first | apply And.intro | intro)
      all_goals (try first | omega | contradiction | exact Or.inl trivial | exact Or.inr trivial)
theorem c86 (hN : zN K V P N) (hz : zC I G n K V P N h S) (hh : 0 ≤ h ∧ h ≤ N) (hK : K h = 25) {R : z_R} (hR : z_tb K h S = R) (k1 : R.1 = 0 → ∀ I', w_fr pzZ I I' → zC I' G n K V P N R.2.1 R.2.2 → Q (some (w_i 1)) I' J b) (k0 : R.1 ≠ 0 → ∀ I', zB I I' R.1 (P R.2.1) → Q (some (w_i 0)) I' J b) : w_C xs xl 86 [.ref 8] I J b Q := by
  have hNN := hN.1.2
  refine e86 (b86_0 ?_)
  unfold z_tb at hR
  refine c77z hN hR hz hh (by omega) (fun z1 x1 hR => ?_) (fun r I' f => ?_)
  · have f1 : w_fr pzZ I (w_U I 8 9 (h + 1)) := w_frU w_frr rfl
    generalize w_U I 8 9 (h + 1) = I1 at z1 f1
    have q9 := z1.2.1.1
    have t15 := (z1.1.2 (h + 1) (by omega) x1).1
    have kb := (hN.2.2.2.1 (h + 1) (by omega) x1).1
    have fin : ∀ v : Int, 2 ≤ K (h + 1) → z_pa (h + 1) S (z_en K (z_aby v S)) = R → w_C xs xl 77 [.ref 8] (w_U I1 9 10 v) J b (fun v Ic Jc bc => w_T xs xl 86 73 [some (.ref 8)] [] (w_pv v []) Ic Jc bc Q) := by
      intro v hk r2
      have z2 : zC (w_U I1 9 10 v) G n K V P N (h + 1) (z_aby v S) := zC_9 z1 (fun a x => w_Ua x) (fun k x y z => by rw [w_Ug, if_pos rfl, if_neg z]) rfl rfl rfl rfl rfl rfl rfl (by simp [w_Ug, z_aby]; exact z1.2.2.2.2.1.1) (by simp [w_Ug, z_aby]; exact z1.2.2.2.2.1.2.1) (by simp [w_Ug, z_aby])
      have f2 : w_fr pzZ I (w_U I1 9 10 v) := w_frU f1 rfl
      generalize w_U I1 9 10 v = I2 at z2 f2
      refine c77z hN r2 z2 ⟨by omega, x1⟩ hk (fun z3 x3 r3 => ?_) (fun r I' f => ?_)
      · have f3 : w_fr pzZ I (w_U I2 8 9 (h + 1 + 1)) := w_frU f2 rfl
        generalize w_U I2 8 9 (h + 1 + 1) = I3 at z3 f3
        refine b86_73 ?_
        try simp only [w_Ug, reduceIte, Nat.reduceEqDiff, Int.reduceEq, eq_self, if_true]
        repeat' (first | apply And.intro | intro)
        all_goals (try first | omega | contradiction | exact Or.inl trivial | exact Or.inr trivial)
        refine c78z hN r3 z3 ⟨by omega, x3⟩ (by decide) (fun _ z7 x7 r7 => ?_) (fun r I' f => ?_)
        · have r7 : (0, h + 1 + 1 + 1, z_aby v S) = R := r7
          rw [← r7] at k1
          have kk := k1 rfl _ (w_frU f3 rfl) z7
          refine b86_81 ?_
          try simp only [w_Ug, reduceIte, Nat.reduceEqDiff, Int.reduceEq, eq_self, if_true]
          repeat' (first | apply And.intro | intro)
          all_goals (try first | omega | contradiction | exact Or.inl trivial | exact Or.inr trivial)
        · have kk := k0 r I' (zB_f f f3)
          refine b86_81 ?_
          try simp only [w_Ug, reduceIte, Nat.reduceEqDiff, Int.reduceEq, eq_self, if_true]
          repeat' (first | apply And.intro | intro)
          all_goals (try first | omega | contradiction | exact Or.inl trivial | exact Or.inr trivial)
      · have kk := k0 r I' (zB_f f f2)
        refine b86_73 ?_
        try simp only [w_Ug, reduceIte, Nat.reduceEqDiff, Int.reduceEq, eq_self, if_true]
        repeat' (first | apply And.intro | intro)
        all_goals (try first | omega | contradiction | exact Or.inl trivial | exact Or.inr trivial)
    unfold z_tb1 at hR
    by_cases c6 : K (h + 1) = 26
    · rw [if_pos c6] at hR
      have q := fin 0 (by omega) hR
      refine b86_4 ?_
      try simp only [w_Ug, reduceIte, Nat.reduceEqDiff, Int.reduceEq, eq_self, q9, t15]
      repeat' (first | apply And.intro | intro)
      all_goals (try first | omega | contradiction | exact Or.inl trivial | exact Or.inr trivial)
    · rw [if_neg c6] at hR
      by_cases c7 : K (h + 1) = 27
      · rw [if_pos c7] at hR
        have q := fin 1 (by omega) hR
        refine b86_4 ?_
        try simp only [w_Ug, reduceIte, Nat.reduceEqDiff, Int.reduceEq, eq_self, q9, t15]
        repeat' (first | apply And.intro | intro)
        all_goals (try first | omega | contradiction | exact Or.inl trivial | exact Or.inr trivial)
      · rw [if_neg c7] at hR
        rw [← hR] at k0
        have q : w_C xs xl 76 [.ref 8, w_i 1] I1 J b (fun v Ic Jc bc => w_T xs xl 86 42 [some (.ref 8)] [] (w_pv v []) Ic Jc bc Q) := c76 z1.1.2 hNN q9 ⟨by omega, x1⟩ (fun I' f => b86_42 ⟨Or.inl rfl, k0 (by simp) I' (zB_f f f1)⟩)
        refine b86_4 ?_
        try simp only [w_Ug, reduceIte, Nat.reduceEqDiff, Int.reduceEq, eq_self, q9, t15]
        repeat' (first | apply And.intro | intro)
        all_goals (try first | omega | contradiction | exact Or.inl trivial | exact Or.inr trivial)
  · have kk := k0 r I' f
    refine b86_4 ?_
    try simp only [w_Ug, reduceIte, Nat.reduceEqDiff, Int.reduceEq, eq_self, if_true]
    repeat' (first | apply And.intro | intro)
    all_goals (try first | omega | contradiction | exact Or.inl trivial | exact Or.inr trivial)
end
