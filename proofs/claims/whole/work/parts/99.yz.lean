section
/-! call years: the class -/
variable {xs : Nat → Int32} {xl : Nat} {I J : w_I} {b : Bool} {Q : Option Value → w_I → w_I → Bool → Prop}
variable {s : Int → Int}
theorem y_W {D : Int → Int} (wf : m_wf s) (hD : m_eqT s D) {I I' : w_I} (rt : c_rt I s) (h : w_fr py I I') : c_rt I' D := c_rt_c (py_rt h rt) wf.1 hD
set_option maxHeartbeats 4000000 in
theorem c38 {F : m_F} {seed n rule : Int} (rf : c_rf 20 I s) (rt : c_rt I s) (wf : m_wf s) (cd : c_cd (I 5) (I 6) (I 7) F s) (ht : ¬ m_tt s) (hn : 1 ≤ n ∧ n ≤ 40) (hr : 0 ≤ rule ∧ rule ≤ 3) (h9 : s 9 + 12 * n ≤ 1200)
    (k : ∀ I' s' mv, w_fr p51 I I' → y_ys F seed rule n.toNat 0 s s' mv → c_rf 20 I' s' → Q (some (w_i mv)) I' J b) : w_C xs xl 38 [.ref 103, w_i seed, w_i n, w_i rule] I J b Q := by
  have w := wf.1
  have w0 := w.1
  refine e38 (b38_0 ?_)
  -- all is told from the state after the two fields were set
  have fr0 : w_fr p51 I (w_U (w_U I 103 2 seed) 103 3 0) := w_frU (w_frU w_frr rfl) rfl
  have rf0 : c_rf 20 (w_U (w_U I 103 2 seed) 103 3 0) s := c_rf_fr (fun a h1 h2 => by rw [w_Ua (by omega), w_Ua (by omega)]) rf
  have rt0 : c_rt (w_U (w_U I 103 2 seed) 103 3 0) s := by
    unfold c_rt
    simp only [w_Ug, reduceIte, Nat.reduceEqDiff]
    exact rt
  have cd0 : c_cd (w_U (w_U I 103 2 seed) 103 3 0 5) (w_U (w_U I 103 2 seed) 103 3 0 6) (w_U (w_U I 103 2 seed) 103 3 0 7) F s := by
    rw [w_Ua (by decide), w_Ua (by decide), w_Ua (by decide), w_Ua (by decide), w_Ua (by decide), w_Ua (by decide)]
    exact cd
  have s0 : w_U (w_U I 103 2 seed) 103 3 0 103 2 = seed := by rw [w_Ug, if_pos rfl, if_neg (by decide), w_Ug, if_pos rfl, if_pos rfl]
  have a0 : w_U (w_U I 103 2 seed) 103 3 0 103 3 = 0 := by rw [w_Ug, if_pos rfl, if_pos rfl]
  generalize w_U (w_U I 103 2 seed) 103 3 0 = I0 at fr0 rf0 rt0 cd0 s0 a0
  have loop : ∀ (m : Nat) (i acc : Int) (E : Int → Int) (u5 : Option Value) (I1 : w_I), i + m = n → 0 ≤ i → (m_wf E ∧ m_eqT s E ∧ E 9 = s 9 + 12 * i) → w_fr py I0 I1 → c_rf 20 I1 E → I1 103 3 = acc → 0 ≤ acc ∧ acc ≤ 48 * i → (∀ s' mv, y_ys F seed rule m i E s' mv → y_ys F seed rule n.toNat 0 s s' (acc + mv)) →
      w_T xs xl 38 13 [some (.ref 103), some (w_i seed), some (w_i n), some (w_i rule), some (w_i i), u5] [] [] I1 J b Q := by
    intro m
    induction m with
    | zero =>
      intro i acc E u5 I1 b0 b1 b2 b3 b4 b5 b6 b7
      have kk := k I1 E acc (w_frt fr0 (py_51 b3)) (by have := b7 E 0 ⟨rfl, rfl⟩; rw [Int.add_zero] at this; exact this) b4
      refine b38_13 ?_
      try simp only [w_Ug, reduceIte, Nat.reduceEqDiff, Int.reduceEq, eq_self, b5]
      repeat' (first | apply And.intro | intro)
      all_goals (try first | omega | contradiction | exact Or.inl trivial | exact Or.inr trivial)
    | succ m ih =>
      intro i acc E u5 I1 b0 b1 b2 b3 b4 b5 b6 b7
      obtain ⟨wE, eT, e9⟩ := b2
      have wE0 := wE.1.1
      have r15 : I1 20 15 = E 9 := by
        have rf' := b4
        simp only [c_rf, Nat.reduceAdd] at rf'
        exact rf'.2.2.1
      have w1 := m_wf_mon wE (n := E 9 + 12) (by omega)
      have eT1 : m_eqT s (u1 E 9 (E 9 + 12)) := fun k hk => by rw [u1g, if_neg (by omega)]; exact eT k hk
      have rf1 := c_rf_mon (n := E 9 + 12) b4 wE.1
      have fr1 : w_fr py I0 (w_U I1 20 15 (E 9 + 12)) := w_frU b3 rfl
      have e7 : u1 E 9 (E 9 + 12) 7 = E 7 := by rw [u1g, if_neg (by decide)]
      -- the next year
      have nxt : ∀ {s1 : Int → Int} {m1 : Int} {I2 : w_I} (u5 : Option Value), y_yr F seed (200 * i) rule E s1 m1 → w_fr py I0 I2 → c_rf 20 I2 s1 → I2 103 3 = acc + m1 → w_T xs xl 38 13 [some (.ref 103), some (w_i seed), some (w_i n), some (w_i rule), some (w_i (i + 1)), u5] [] [] I2 J b Q := by
        intro s1 m1 I2 u5 hy f2 r2 a2
        have ok := y_yr_ok wE (by omega) hy
        refine ih (i + 1) (acc + m1) s1 u5 I2 (by omega) (by omega) ⟨ok.1.1, fun k hk => (ok.1.2.1 k hk).trans (eT k hk), by rw [ok.1.2.2, e9]; omega⟩ f2 r2 a2 (by omega) (fun s' mv h => ?_)
        have := b7 s' (m1 + mv) ⟨s1, m1, mv, hy, h, rfl⟩
        rw [show acc + (m1 + mv) = acc + m1 + mv by omega] at this
        exact this
      refine b38_13 ?_
      try simp only [w_Ug, reduceIte, Nat.reduceEqDiff, Int.reduceEq, eq_self, r15]
      repeat' (first | apply And.intro | intro)
      all_goals (try first | omega | contradiction | exact Or.inl trivial | exact Or.inr trivial)
      refine c42 (F := F) (seed := seed) rf1 (y_W wf eT1 rt0 fr1) w1 (c_cd_c (py_cd fr1 cd0) w eT1) ((fr1 103 2 rfl).trans s0) (fun I2 fr2 r2 => b38_46 ?_)
      rw [e7] at r2
      have kd := (y_K_dth (F := F) (seed := seed) (wh := 200 * i) w1 (E 7).toNat).1
      have hy2 : ∃ s2, s2 = m_dth F seed (200 * i) (u1 E 9 (E 9 + 12)) (E 7).toNat := ⟨_, rfl⟩
      obtain ⟨s2, hs2⟩ := hy2
      rw [← hs2] at r2 kd
      have f2 := w_frt fr1 (py0_y fr2)
      refine c43 (seed := seed) r2 kd.1 ((f2 103 2 rfl).trans s0) (fun I3 s3 c p fr3 cm r3 => ?_)
      have f3 := w_frt f2 (py0_y fr3)
      obtain ⟨k3, cp⟩ := y_K_cm kd.1 cm
      have k13 := y_K_t kd k3
      have eT3 : m_eqT s s3 := fun k hk => (k13.2.1 k hk).trans (eT1 k hk)
      have a3 : I3 103 3 = acc := by
        rw [fr3 103 3 rfl, fr2 103 3 rfl, w_Ua (by decide)]
        exact b5
      have cb : w_in c := by
        rcases cp with x | x
        · rw [x.1]; decide
        · have := x.1.1.1; have := x.1.1.2.1; have := k3.1.1.1; exact ⟨by omega, by omega⟩
      have tt3 : ¬ m_tt s3 := fun x => ht ((m_tt_T wf eT3).mp x)
      have rt3 := y_W wf eT3 rt0 f3
      have cd3 : c_cd (I3 5) (I3 6) (I3 7) F s3 := c_cd_c (py_cd f3 cd0) w eT3
      -- the ways of a year
      have way : ∀ {s1 : Int → Int} {m1 : Int}, ((rule = 0 ∧ ∃ s4 m1' m2, ((c = -1 ∧ s4 = s3 ∧ m1' = 0) ∨ (c ≠ -1 ∧ y_ls F s3 c p s4 m1')) ∧ y_ls F s4 (-1) (-1) s1 m2 ∧ m1 = m1' + m2) ∨ (rule = 2 ∧ y_st s3 c p s1 m1) ∨ (rule ≠ 0 ∧ rule ≠ 2 ∧ ∃ s4, y_nr s3 c p s4 ∧ ((rule = 3 ∧ m_any F s4 ≠ 0 ∧ y_ls F s4 (-1) (-1) s1 m1) ∨ (¬ (rule = 3 ∧ m_any F s4 ≠ 0) ∧ s1 = s4 ∧ m1 = 0)))) → y_yr F seed (200 * i) rule E s1 m1 := fun h => ⟨s2, s3, c, p, hs2, cm, h⟩
      by_cases c0 : rule = 0
      · by_cases c1 : c = -1
        · refine b38_56 ?_
          try simp only [w_Ug, reduceIte, Nat.reduceEqDiff, Int.reduceEq, eq_self, if_true]
          repeat' (first | apply And.intro | intro)
          all_goals (try first | omega | contradiction | exact Or.inl trivial | exact Or.inr trivial)
          refine c45 (F := F) (p := -1) r3 rt3 k3.1 cd3 y_cp0 tt3 (fun I4 s4 m4 fr4 y4 r4 a4 => b38_79 ?_)
          exact nxt _ (way (Or.inl ⟨c0, s3, 0, m4, Or.inl ⟨c1, rfl, rfl⟩, y4, (Int.zero_add m4).symm⟩)) (w_frt f3 fr4) r4 (by rw [a4, a3])
        · refine b38_56 ?_
          try simp only [w_Ug, reduceIte, Nat.reduceEqDiff, Int.reduceEq, eq_self, if_true]
          repeat' (first | apply And.intro | intro)
          all_goals (try first | omega | contradiction | exact Or.inl trivial | exact Or.inr trivial)
          refine c45 (F := F) (p := p) r3 rt3 k3.1 cd3 cp tt3 (fun I4 s4 m4 fr4 y4 r4 a4 => b38_74 ?_)
          have k4 := y_K_ls k3.1 cp y4
          have f4 := w_frt f3 fr4
          have eT4 : m_eqT s s4 := fun k hk => (k4.1.2.1 k hk).trans (eT3 k hk)
          refine c45 (F := F) (p := -1) r4 (y_W wf eT4 rt0 f4) k4.1.1 (c_cd_c (py_cd f4 cd0) w eT4) y_cp0 (fun x => ht ((m_tt_T wf eT4).mp x)) (fun I5 s5 m5 fr5 y5 r5 a5 => b38_79 ?_)
          exact nxt _ (way (Or.inl ⟨c0, s4, m4, m5, Or.inr ⟨c1, y4⟩, y5, rfl⟩)) (w_frt f4 fr5) r5 (by rw [a5, a4, a3]; omega)
      · by_cases c2 : rule = 2
        · refine b38_56 ?_
          try simp only [w_Ug, reduceIte, Nat.reduceEqDiff, Int.reduceEq, eq_self, if_true]
          repeat' (first | apply And.intro | intro)
          all_goals (try first | omega | contradiction | exact Or.inl trivial | exact Or.inr trivial)
          refine c48 (p := p) r3 rt3 k3.1 cp (by rw [a3]; omega) (fun I4 s4 m4 fr4 y4 r4 a4 => b38_93 ?_)
          exact nxt _ (way (Or.inr (Or.inl ⟨c2, y4⟩))) (w_frt f3 fr4) r4 (by rw [a4, a3])
        · refine b38_56 ?_
          try simp only [w_Ug, reduceIte, Nat.reduceEqDiff, Int.reduceEq, eq_self, if_true]
          repeat' (first | apply And.intro | intro)
          all_goals (try first | omega | contradiction | exact Or.inl trivial | exact Or.inr trivial)
          refine c46 (p := p) r3 rt3 k3.1 cp (fun I4 s4 fr4 y4 r4 => ?_)
          have k4 := y_K_nr k3.1 cp y4
          have f4 := w_frt f3 (py0_y fr4)
          have eT4 : m_eqT s s4 := fun k hk => (k4.2.1 k hk).trans (eT3 k hk)
          have a4 : I4 103 3 = acc := (fr4 103 3 rfl).trans a3
          by_cases c3 : rule = 3
          · refine b38_102 ?_
            try simp only [w_Ug, reduceIte, Nat.reduceEqDiff, Int.reduceEq, eq_self, if_true]
            repeat' (first | apply And.intro | intro)
            all_goals (try first | omega | contradiction | exact Or.inl trivial | exact Or.inr trivial)
            have rt4 := y_W wf eT4 rt0 f4
            have cd4 : c_cd (I4 5) (I4 6) (I4 7) F s4 := c_cd_c (py_cd f4 cd0) w eT4
            refine c39 (F := F) r4 rt4 k4.1 cd4 (fun hu I5 fr5 r5 => ?_) (fun hu I5 fr5 r5 => ?_)
            · refine b38_111 ?_
              try simp only [w_Ug, reduceIte, Nat.reduceEqDiff, Int.reduceEq, eq_self, if_true]
              repeat' (first | apply And.intro | intro)
              all_goals (try first | omega | contradiction | exact Or.inl trivial | exact Or.inr trivial)
              have f5 := w_frt f4 (py0_y fr5)
              have a5 : I5 103 3 = acc := (fr5 103 3 rfl).trans a4
              refine c45 (F := F) (p := -1) r5 (y_W wf eT4 rt0 f5) k4.1 (c_cd_c (py_cd f5 cd0) w eT4) y_cp0 (fun x => ht ((m_tt_T wf eT4).mp x)) (fun I6 s6 m6 fr6 y6 r6 a6 => b38_119 ?_)
              exact nxt _ (way (Or.inr (Or.inr ⟨c0, c2, s4, y4, Or.inl ⟨c3, hu, y6⟩⟩))) (w_frt f5 fr6) r6 (by rw [a6, a5])
            · have nn := nxt u5 (way (Or.inr (Or.inr ⟨c0, c2, s4, y4, Or.inr ⟨fun x => x.2 hu, rfl, rfl⟩⟩))) (w_frt f4 (py0_y fr5)) r5 (by rw [fr5 103 3 rfl, a4]; omega)
              refine b38_111 ?_
              try simp only [w_Ug, reduceIte, Nat.reduceEqDiff, Int.reduceEq, eq_self, if_true]
              repeat' (first | apply And.intro | intro)
              all_goals (try first | omega | contradiction | exact Or.inl trivial | exact Or.inr trivial)
              all_goals exact nxt _ (way (Or.inr (Or.inr ⟨c0, c2, s4, y4, Or.inr ⟨fun x => x.2 hu, rfl, rfl⟩⟩))) (w_frt f4 (py0_y fr5)) r5 (by rw [fr5 103 3 rfl, a4]; omega)
          · refine b38_102 ?_
            try simp only [w_Ug, reduceIte, Nat.reduceEqDiff, Int.reduceEq, eq_self, if_true]
            repeat' (first | apply And.intro | intro)
            all_goals (try first | omega | contradiction | exact Or.inl trivial | exact Or.inr trivial)
            exact nxt _ (way (Or.inr (Or.inr ⟨c0, c2, s4, y4, Or.inr ⟨fun x => c3 x.1, rfl, rfl⟩⟩))) f4 r4 (by rw [a4]; omega)
  exact loop n.toNat 0 0 s _ I0 (by omega) (by omega) ⟨wf, fun _ _ => rfl, by omega⟩ w_frr rf0 a0 (by omega) (fun s' mv h => by rw [Int.zero_add]; exact h)
abbrev m_yrk (s : Int → Int) (n rule : Int) : Prop := (1 ≤ n ∧ n ≤ 40) ∧ (0 ≤ rule ∧ rule ≤ 3) ∧ s 9 + 12 * n ≤ 1200
theorem c151 {F : m_F} {seed n rule : Int} (rf : c_rf 20 I s) (rt : c_rt I s) (wf : m_wf s) (cd : c_cd (I 5) (I 6) (I 7) F s) (hn : w_in n) (hr : w_in rule)
    (kN : ¬ m_yrk s n rule → Q (some (w_i (-1))) I J b) (k0 : m_yrk s n rule → m_tt s → Q (some (w_i (-2))) I J b)
    (k1 : m_yrk s n rule → ¬ m_tt s → ∀ I' s' mv, w_fr p51 I I' → y_ys F seed rule n.toNat 0 s s' mv → c_rf 20 I' s' → Q (some (w_i mv)) I' J b) : w_C xs xl 151 [.ref 0, w_i seed, w_i n, w_i rule] I J b Q := by
  have w := wf.1
  have w0 := w.1
  have r15 : I 20 15 = s 9 := by
    have rf' := rf
    simp only [c_rf, Nat.reduceAdd] at rf'
    exact rf'.2.2.1
  refine e151 ?_
  by_cases h : m_yrk s n rule
  · have k0 := k0 h
    have k1 := k1 h
    refine b151_0 ?_
    try simp only [w_Ug, reduceIte, Nat.reduceEqDiff, Int.reduceEq, eq_self, r15]
    repeat' (first | apply And.intro | intro)
    all_goals (try first | omega | contradiction | exact Or.inl trivial | exact Or.inr trivial)
    refine c104 rt w (fun ht => ?_) (fun ht => ?_)
    · have kk := k0 ht
      refine b151_49 ?_
      try simp only [w_Ug, reduceIte, Nat.reduceEqDiff, Int.reduceEq, eq_self, if_true]
      repeat' (first | apply And.intro | intro)
      all_goals (try first | omega | contradiction | exact Or.inl trivial | exact Or.inr trivial)
    · refine b151_49 ?_
      try simp only [w_Ug, reduceIte, Nat.reduceEqDiff, Int.reduceEq, eq_self, if_true]
      repeat' (first | apply And.intro | intro)
      all_goals (try first | omega | contradiction | exact Or.inl trivial | exact Or.inr trivial)
      exact c38 (F := F) rf rt wf cd ht h.1 h.2.1 h.2.2 (fun I' s' mv f y r => b151_67 (k1 ht I' s' mv f y r))
  · have kk := kN h
    refine b151_0 ?_
    try simp only [w_Ug, reduceIte, Nat.reduceEqDiff, Int.reduceEq, eq_self, r15]
    repeat' (first | apply And.intro | intro)
    all_goals (try first | omega | contradiction | exact Or.inl trivial | exact Or.inr trivial)
end
