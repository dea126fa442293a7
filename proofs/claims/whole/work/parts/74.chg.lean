section
/-! calls: change -/
variable {xs : Nat → Int32} {xl : Nat} {I J : w_I} {b : Bool} {Q : Option Value → w_I → w_I → Bool → Prop}
variable {s : Int → Int}
theorem m_worth_b {F : m_F} {f h : Int} : 0 ≤ m_worth F s f h ∧ m_worth F s f h ≤ 999 := by
  unfold m_worth
  exact m_clamp_b _ (by decide)
def m_gain (F : m_F) (s : Int → Int) (f g : Int) : Int := m_worth F s f (s (460 + 3 * g + 1)) + m_worth F s g (s (460 + 3 * f + 1)) - m_worth F s f (s (460 + 3 * f + 1)) - m_worth F s g (s (460 + 3 * g + 1))
theorem m_gain_b {F : m_F} {f g : Int} : -2000 ≤ m_gain F s f g ∧ m_gain F s f g ≤ 2000 := by
  have h1 := m_worth_b (s := s) (F := F) (f := f) (h := s (460 + 3 * g + 1))
  have h2 := m_worth_b (s := s) (F := F) (f := g) (h := s (460 + 3 * f + 1))
  have h3 := m_worth_b (s := s) (F := F) (f := f) (h := s (460 + 3 * f + 1))
  have h4 := m_worth_b (s := s) (F := F) (f := g) (h := s (460 + 3 * g + 1))
  unfold m_gain
  omega
abbrev m_may (s : Int → Int) (f g : Int) : Prop := m_isF s f ∧ m_isF s g ∧ 0 ≤ s (460 + 3 * f + 1) ∧ 0 ≤ s (460 + 3 * g + 1) ∧ m_key s f = m_key s g
def v_scan (F : m_F) (s : Int → Int) : Nat → Int → Int → Int → Int → Int × Int
  | 0, _, _, best, who => (best, who)
  | n + 1, f, g, best, who => if g < s 8 then (if m_may s f g ∧ best < m_gain F s f g then v_scan F s n f (g + 1) (m_gain F s f g) (100 * f + g) else v_scan F s n f (g + 1) best who) else if f + 1 < s 8 then v_scan F s n (f + 1) (f + 2) best who else (best, who)
theorem v_scan_s {F : m_F} {n : Nat} {f g best who : Int} : v_scan F s (n + 1) f g best who = if g < s 8 then (if m_may s f g ∧ best < m_gain F s f g then v_scan F s n f (g + 1) (m_gain F s f g) (100 * f + g) else v_scan F s n f (g + 1) best who) else if f + 1 < s 8 then v_scan F s n (f + 1) (f + 2) best who else (best, who) := rfl
def m_chg (F : m_F) (s : Int → Int) : Int × Int := v_scan F s 1000 0 1 0 0
def m_chv (F : m_F) (s : Int → Int) (a : Int) : Int := if (m_chg F s).1 = 0 then -2 else if a = 0 then (m_chg F s).1 else (m_chg F s).2
theorem s271 {F : m_F} {a : Int} (hs : I 110 = s) (hF : m_at I F) (wf : m_wf s) (cd : m_cd F s) (ha : w_in a) (kN : ¬ (0 ≤ a ∧ a ≤ 1) → Q (some (w_i (-1))) I J b)
    (k : 0 ≤ a ∧ a ≤ 1 → ∀ I', w_fr pJ I I' → Q (some (w_i (m_chv F s a))) I' J b) : w_C xs xl 271 [.ref 104, w_i a] I J b Q := by
  have w := wf.1
  have w0 := w.1
  unfold m_chv at k
  refine e271 (b271_0 ?_)
  refine s209 ha (by decide) (by decide) (fun h1 => ?_) (fun h1 => ?_)
  · have k := k h1
    unfold m_chg at k
    generalize hR : v_scan F s 1000 0 1 0 0 = R at k
    refine b271_6 ?_
    try simp only [w_Ug, reduceIte, Nat.reduceEqDiff, Int.reduceEq, eq_self, if_true]
    repeat' (first | apply And.intro | intro)
    all_goals (try first | omega | contradiction | exact Or.inl trivial | exact Or.inr trivial)
    -- at the end
    have fin : ∀ (l2 l3 l4 : Int) (u5 u6 : Option Value) (I1 : w_I), s 8 ≤ l4 → l4 ≤ 31 → w_fr pJ I I1 → 0 ≤ l2 → l2 ≤ 2000 → R = (l2, l3) → w_T xs xl 271 18 [some (.ref 104), some (w_i a), some (w_i l2), some (w_i l3), some (w_i l4), u5, u6] [] [] I1 J b Q := by
      intro l2 l3 l4 u5 u6 I1 b0 b4 b1 b2 b3 hr
      have hs1 := pJ_s b1 hs
      have kk := k I1 b1
      rw [hr] at kk
      try dsimp only at kk
      refine b271_18 ?_
      try simp only [w_Ug, reduceIte, Nat.reduceEqDiff, Int.reduceEq, eq_self, hs1]
      repeat' (first | apply And.intro | intro)
      all_goals (try first | omega | contradiction | exact Or.inl trivial | exact Or.inr trivial)
      · rename_i c1 c2
        rw [if_neg c1, if_neg c2] at kk; exact kk
      · rename_i c1 c2
        rw [if_neg c1, if_pos c2] at kk; exact kk
      · rename_i c1
        rw [if_pos c1] at kk; exact kk
    have loop : ∀ (n : Nat) (f g best who : Int) (u6 : Option Value) (I1 : w_I), w_fr pJ I I1 → 0 ≤ f → f < s 8 → f < g → g ≤ s 8 → 32 * (s 8 - f) + (s 8 - g) < n → 0 ≤ best → best ≤ 2000 → R = v_scan F s n f g best who →
        w_T xs xl 271 36 [some (.ref 104), some (w_i a), some (w_i best), some (w_i who), some (w_i f), some (w_i g), u6] [] [] I1 J b Q := by
      intro n
      induction n with
      | zero => intro f g best who u6 I1 a0 a1 a2 a3 a4 a5; omega
      | succ n ih =>
        intro f g best who u6 I1 a0 a1 a2 a3 a4 a5 a6 a7 a8
        have hs1 := pJ_s a0 hs
        have hF1 := pJ_F a0 hF
        rw [v_scan_s] at a8
        by_cases hg : g < s 8
        · rw [if_pos hg] at a8
          have gb := m_gain_b (s := s) (F := F) (f := f) (g := g)
          have no : ¬ (m_may s f g ∧ best < m_gain F s f g) → ∀ (u6 : Option Value) (I2 : w_I), w_fr pJ I I2 → w_T xs xl 271 36 [some (.ref 104), some (w_i a), some (w_i best), some (w_i who), some (w_i f), some (w_i (g + 1)), u6] [] [] I2 J b Q := by
            intro hn u6 I2 fr
            rw [if_neg hn] at a8
            exact ih f (g + 1) best who u6 I2 fr a1 a2 (by omega) (by omega) (by omega) a6 a7 a8
          have w3f := w.2.2.2.1 f a1 a2
          have w3g := w.2.2.2.1 g (by omega) hg
          refine b271_36 ?_
          try simp only [w_Ug, reduceIte, Nat.reduceEqDiff, Int.reduceEq, eq_self, hs1]
          repeat' (first | apply And.intro | intro)
          all_goals (try first | omega | contradiction | exact Or.inl trivial | exact Or.inr trivial)
          refine s211 hs1 w (by omega) (fun x1 => ?_) (fun x1 => ?_)
          · refine b271_54 ?_
            try simp only [w_Ug, reduceIte, Nat.reduceEqDiff, Int.reduceEq, eq_self, if_true]
            repeat' (first | apply And.intro | intro)
            all_goals (try first | omega | contradiction | exact Or.inl trivial | exact Or.inr trivial)
            refine s211 hs1 w (by omega) (fun x2 => ?_) (fun x2 => ?_)
            · refine b271_63 ?_
              try simp only [w_Ug, reduceIte, Nat.reduceEqDiff, Int.reduceEq, eq_self, if_true]
              repeat' (first | apply And.intro | intro)
              all_goals (try first | omega | contradiction | exact Or.inl trivial | exact Or.inr trivial)
              refine s213 hs1 (by omega) ?_
              by_cases x3 : s (460 + 3 * f + 1) < 0
              · have no := no (fun z => by have := z.1.2.2.1; omega) u6 I1 a0
                refine b271_72 ?_
                try simp only [w_Ug, reduceIte, Nat.reduceEqDiff, Int.reduceEq, eq_self, if_true]
                repeat' (first | apply And.intro | intro)
                all_goals (try first | omega | contradiction | exact Or.inl trivial | exact Or.inr trivial)
              · refine b271_72 ?_
                try simp only [w_Ug, reduceIte, Nat.reduceEqDiff, Int.reduceEq, eq_self, if_true]
                repeat' (first | apply And.intro | intro)
                all_goals (try first | omega | contradiction | exact Or.inl trivial | exact Or.inr trivial)
                refine s213 hs1 (by omega) ?_
                by_cases x4 : s (460 + 3 * g + 1) < 0
                · have no := no (fun z => by have := z.1.2.2.2.1; omega) u6 I1 a0
                  refine b271_81 ?_
                  try simp only [w_Ug, reduceIte, Nat.reduceEqDiff, Int.reduceEq, eq_self, if_true]
                  repeat' (first | apply And.intro | intro)
                  all_goals (try first | omega | contradiction | exact Or.inl trivial | exact Or.inr trivial)
                · refine b271_81 ?_
                  try simp only [w_Ug, reduceIte, Nat.reduceEqDiff, Int.reduceEq, eq_self, if_true]
                  repeat' (first | apply And.intro | intro)
                  all_goals (try first | omega | contradiction | exact Or.inl trivial | exact Or.inr trivial)
                  refine s218 hs1 w (by omega) (fun I2 fr2 => b271_90 ?_)
                  have hs2 := pJ_s (p216_J fr2) hs1
                  refine s218 hs2 w (by omega) (fun I3 fr3 => ?_)
                  have fr3' := w_frt a0 (w_frt (p216_J fr2) (p216_J fr3))
                  have hs3 := pJ_s fr3' hs
                  have hF3 := pJ_F fr3' hF
                  have kb1 := m_key_b w (f := f)
                  have kb2 := m_key_b w (f := g)
                  have ek : ∀ x, m_ag s x (-1) 0 (s 3) / s 1 = m_key s x := fun x => rfl
                  rw [ek, ek]
                  by_cases x5 : m_key s f = m_key s g
                  · refine b271_96 ?_
                    try simp only [w_Ug, reduceIte, Nat.reduceEqDiff, Int.reduceEq, eq_self, if_true]
                    repeat' (first | apply And.intro | intro)
                    all_goals (try first | omega | contradiction | exact Or.inl trivial | exact Or.inr trivial)
                    refine s213 hs3 (by omega) (b271_111 ?_)
                    refine s269 hs3 hF3 w cd ⟨a1, a2⟩ (by omega) (fun I4 fr4 => b271_114 ?_)
                    have fr4' := w_frt fr3' (pN_J fr4)
                    have hs4 := pJ_s fr4' hs
                    have hF4 := pJ_F fr4' hF
                    refine s213 hs4 (by omega) (b271_123 ?_)
                    refine s269 hs4 hF4 w cd ⟨by omega, hg⟩ (by omega) (fun I5 fr5 => b271_126 ?_)
                    have fr5' := w_frt fr4' (pN_J fr5)
                    have hs5 := pJ_s fr5' hs
                    have hF5 := pJ_F fr5' hF
                    refine s213 hs5 (by omega) (b271_136 ?_)
                    refine s269 hs5 hF5 w cd ⟨a1, a2⟩ (by omega) (fun I6 fr6 => b271_139 ?_)
                    have fr6' := w_frt fr5' (pN_J fr6)
                    have hs6 := pJ_s fr6' hs
                    have hF6 := pJ_F fr6' hF
                    refine s213 hs6 (by omega) (b271_149 ?_)
                    refine s269 hs6 hF6 w cd ⟨by omega, hg⟩ (by omega) (fun I7 fr7 => ?_)
                    have fr7' := w_frt fr6' (pN_J fr7)
                    have eg : m_worth F s f (s (460 + 3 * g + 1)) + m_worth F s g (s (460 + 3 * f + 1)) - m_worth F s f (s (460 + 3 * f + 1)) - m_worth F s g (s (460 + 3 * g + 1)) = m_gain F s f g := rfl
                    have may : m_may s f g := ⟨x1, x2, by omega, by omega, x5⟩
                    by_cases x6 : best < m_gain F s f g
                    · rw [if_pos ⟨may, x6⟩] at a8
                      refine b271_152 ?_
                      try simp only [w_Ug, reduceIte, Nat.reduceEqDiff, Int.reduceEq, eq_self, eg]
                      repeat' (first | apply And.intro | intro)
                      all_goals (try first | omega | contradiction | exact Or.inl trivial | exact Or.inr trivial)
                      exact ih f (g + 1) _ _ _ I7 fr7' a1 a2 (by omega) (by omega) (by omega) (by omega) (by omega) a8
                    · have no := no (fun z => x6 z.2) (some (w_i (m_gain F s f g))) I7 fr7'
                      refine b271_152 ?_
                      try simp only [w_Ug, reduceIte, Nat.reduceEqDiff, Int.reduceEq, eq_self, eg]
                      repeat' (first | apply And.intro | intro)
                      all_goals (try first | omega | contradiction | exact Or.inl trivial | exact Or.inr trivial)
                  · have no := no (fun z => x5 z.1.2.2.2.2) u6 I3 fr3'
                    refine b271_96 ?_
                    try simp only [w_Ug, reduceIte, Nat.reduceEqDiff, Int.reduceEq, eq_self, if_true]
                    repeat' (first | apply And.intro | intro)
                    all_goals (try first | omega | contradiction | exact Or.inl trivial | exact Or.inr trivial)
            · have no := no (fun z => x2 z.1.2.1) u6 I1 a0
              refine b271_63 ?_
              try simp only [w_Ug, reduceIte, Nat.reduceEqDiff, Int.reduceEq, eq_self, if_true]
              repeat' (first | apply And.intro | intro)
              all_goals (try first | omega | contradiction | exact Or.inl trivial | exact Or.inr trivial)
          · have no := no (fun z => x1 z.1.1) u6 I1 a0
            refine b271_54 ?_
            try simp only [w_Ug, reduceIte, Nat.reduceEqDiff, Int.reduceEq, eq_self, if_true]
            repeat' (first | apply And.intro | intro)
            all_goals (try first | omega | contradiction | exact Or.inl trivial | exact Or.inr trivial)
        · rw [if_neg hg] at a8
          refine b271_36 ?_
          try simp only [w_Ug, reduceIte, Nat.reduceEqDiff, Int.reduceEq, eq_self, hs1]
          repeat' (first | apply And.intro | intro)
          all_goals (try first | omega | contradiction | exact Or.inl trivial | exact Or.inr trivial)
          by_cases hf : f + 1 < s 8
          · rw [if_pos hf] at a8
            refine b271_18 ?_
            try simp only [w_Ug, reduceIte, Nat.reduceEqDiff, Int.reduceEq, eq_self, hs1]
            repeat' (first | apply And.intro | intro)
            all_goals (try first | omega | contradiction | exact Or.inl trivial | exact Or.inr trivial)
            rw [show f + 1 + 1 = f + 2 by omega]
            exact ih (f + 1) (f + 2) best who _ I1 a0 (by omega) hf (by omega) (by omega) (by omega) a6 a7 a8
          · rw [if_neg hf] at a8
            exact fin best who (f + 1) _ _ I1 (by omega) (by omega) a0 a6 a7 a8
    by_cases h0 : 0 < s 8
    · refine b271_18 ?_
      try simp only [w_Ug, reduceIte, Nat.reduceEqDiff, Int.reduceEq, eq_self, hs]
      repeat' (first | apply And.intro | intro)
      all_goals (try first | omega | contradiction | exact Or.inl trivial | exact Or.inr trivial)
      exact loop 1000 0 1 0 0 _ I w_frr (by omega) h0 (by omega) (by omega) (by omega) (by omega) (by omega) hR.symm
    · refine fin 0 0 0 _ _ I (by omega) (by omega) w_frr (by omega) (by omega) ?_
      rw [← hR, v_scan_s, if_neg (by omega), if_neg (by omega)]
  · have kk := kN h1
    refine b271_6 ?_
    try simp only [w_Ug, reduceIte, Nat.reduceEqDiff, Int.reduceEq, eq_self, if_true]
    repeat' (first | apply And.intro | intro)
    all_goals (try first | omega | contradiction | exact Or.inl trivial | exact Or.inr trivial)
theorem c115 {f g : Int} (rf : c_rf 20 I s) (wf : m_wf s) (ag : c_ag I s 0 (s 3)) (hf : w_in f) (hg : w_in g) (k1 : m_may s f g → Q (some (w_i 1)) I J b) (k0 : ¬ m_may s f g → Q (some (w_i 0)) I J b) : w_C xs xl 115 [.ref 102, w_i f, w_i g] I J b Q := by
  have w := wf.1
  have w0 := w.1
  refine e115 (b115_0 ?_)
  refine c6 rf wf hf (fun x1 => ?_) (fun x1 => ?_)
  · refine b115_13 ?_
    try simp only [w_Ug, reduceIte, Nat.reduceEqDiff, Int.reduceEq, eq_self, if_true]
    repeat' (first | apply And.intro | intro)
    all_goals (try first | omega | contradiction | exact Or.inl trivial | exact Or.inr trivial)
    refine c6 rf wf hg (fun x2 => ?_) (fun x2 => ?_)
    · have ch1 := c_home rf wf x1
      have ch2 := c_home rf wf x2
      have a1 : I 83 f = m_key s f := (ag f x1.1 x1.2.1).2
      have a2 : I 83 g = m_key s g := (ag g x2.1 x2.2.1).2
      have kb1 := m_key_b w (f := f)
      have kb2 := m_key_b w (f := g)
      have := x1.1
      have := x1.2.1
      have := x2.1
      have := x2.2.1
      refine b115_21 ?_
      try simp only [w_Ug, reduceIte, Nat.reduceEqDiff, Int.reduceEq, eq_self, a1, a2]
      repeat' (first | apply And.intro | intro)
      all_goals (try first | omega | contradiction | exact Or.inl trivial | exact Or.inr trivial)
      · rename_i c
        exact k0 (fun z => c z.2.2.2.2)
      · exact k0 (fun z => by have := z.2.2.1; omega)
      · exact k0 (fun z => by have := z.2.2.2.1; omega)
      · exact k1 ⟨x1, x2, by omega, by omega, by assumption⟩
    · have kk := k0 (fun z => x2 z.2.1)
      refine b115_21 ?_
      try simp only [w_Ug, reduceIte, Nat.reduceEqDiff, Int.reduceEq, eq_self, if_true]
      repeat' (first | apply And.intro | intro)
      all_goals (try first | omega | contradiction | exact Or.inl trivial | exact Or.inr trivial)
  · have kk := k0 (fun z => x1 z.1)
    refine b115_13 ?_
    try simp only [w_Ug, reduceIte, Nat.reduceEqDiff, Int.reduceEq, eq_self, if_true]
    repeat' (first | apply And.intro | intro)
    all_goals (try first | omega | contradiction | exact Or.inl trivial | exact Or.inr trivial)
theorem c116 {F : m_F} {f g : Int} (rf : c_rf 20 I s) (rt : c_rt I s) (wf : m_wf s) (cd : c_cd (I 5) (I 6) (I 7) F s) (ag : c_ag I s 0 (s 3)) (hm : m_may s f g)
    (k : ∀ I', w_fr pV I I' → Q (some (w_i (m_gain F s f g))) I' J b) : w_C xs xl 116 [.ref 102, w_i f, w_i g] I J b Q := by
  have w := wf.1
  have w0 := w.1
  obtain ⟨x1, x2, x3, x4, -⟩ := hm
  have ch1 := c_home rf wf x1
  have ch2 := c_home rf wf x2
  have := x1.1
  have := x1.2.1
  have := x2.1
  have := x2.2.1
  have e1 : I 28 f = s (460 + 3 * f + 1) := by omega
  have e2 : I 28 g = s (460 + 3 * g + 1) := by omega
  have agf : ∀ {I' : w_I}, w_fr pV I I' → c_ag I' s 0 (s 3) := fun fr => by
    unfold c_ag
    rw [w_frA (a := 82) fr (fun _ => rfl), w_frA (a := 83) fr (fun _ => rfl)]
    exact ag
  refine e116 ?_
  refine b116_0 ?_
  try simp only [w_Ug, reduceIte, Nat.reduceEqDiff, Int.reduceEq, eq_self, e1, e2]
  repeat' (first | apply And.intro | intro)
  all_goals (try first | omega | contradiction | exact Or.inl trivial | exact Or.inr trivial)
  refine c113 rf rt w cd ag x1 (by omega) (fun I1 fr1 => b116_34 ?_)
  refine c113 (pK_rf (pV_K fr1) rf) (pK_rt (pV_K fr1) rt) w (pK_cd (pV_K fr1) cd) (agf fr1) x2 (by omega) (fun I2 fr2 => b116_40 ?_)
  have fr2 := w_frt fr1 fr2
  refine c113 (pK_rf (pV_K fr2) rf) (pK_rt (pV_K fr2) rt) w (pK_cd (pV_K fr2) cd) (agf fr2) x1 (by omega) (fun I3 fr3 => b116_47 ?_)
  have fr3 := w_frt fr2 fr3
  refine c113 (pK_rf (pV_K fr3) rf) (pK_rt (pV_K fr3) rt) w (pK_cd (pV_K fr3) cd) (agf fr3) x2 (by omega) (fun I4 fr4 => b116_55 ?_)
  exact k I4 (w_frt fr3 fr4)
def p114 (a : Nat) (k : Int) : Bool := pV a k || (a == 102 && (k == 1 || k == 2 || k == 3))
theorem pV_114 {I I' : w_I} (h : w_fr pV I I') : w_fr p114 I I' := w_frm h (fun a k e => by
  unfold p114 at e
  simp only [Bool.or_eq_false_iff] at e
  exact e.1)
theorem p114_K {I I' : w_I} (h : w_fr p114 I I') : w_fr pK I I' := w_frm h (fun a k e => by
  simp only [pK, p114, pV, p96, Bool.or_eq_false_iff, Bool.and_eq_false_iff, beq_eq_false_iff_ne, ne_eq, ble_f] at e ⊢
  omega)
theorem c114 {F : m_F} (rf : c_rf 20 I s) (rt : c_rt I s) (wf : m_wf s) (cd : c_cd (I 5) (I 6) (I 7) F s) (ag : c_ag I s 0 (s 3))
    (k1 : (m_chg F s).1 ≠ 0 → ∀ I', w_fr p114 I I' → I' 102 1 = (m_chg F s).1 → 100 * I' 102 2 + I' 102 3 = (m_chg F s).2 → Q (some (w_i 1)) I' J b) (k0 : (m_chg F s).1 = 0 → ∀ I', w_fr p114 I I' → Q (some (w_i 0)) I' J b) : w_C xs xl 114 [.ref 102] I J b Q := by
  have w := wf.1
  have w0 := w.1
  unfold m_chg at k1 k0
  generalize hR : v_scan F s 1000 0 1 0 0 = R at k1 k0
  refine e114 (b114_0 ?_)
  have fin : ∀ (l1 best who : Int) (u2 u3 : Option Value) (I1 : w_I), s 8 ≤ l1 → l1 ≤ 31 → w_fr p114 I I1 → I1 102 1 = best → (0 < best → 100 * I1 102 2 + I1 102 3 = who) → 0 ≤ best → best ≤ 2000 → R = (best, who) → w_T xs xl 114 7 [some (.ref 102), some (w_i l1), u2, u3] [] [] I1 J b Q := by
    intro l1 best who u2 u3 I1 b0 b1 b2 b3 b4 b5 b6 hr
    have r14 : I1 20 14 = s 8 := by
      have rf1 := pK_rf (p114_K b2) rf
      simp only [c_rf, Nat.reduceAdd] at rf1
      exact rf1.2.1
    rw [hr] at k1 k0
    try dsimp only at k1 k0
    by_cases c : best = 0
    · have kk := k0 c I1 b2
      refine b114_7 ?_
      try simp only [w_Ug, reduceIte, Nat.reduceEqDiff, Int.reduceEq, eq_self, r14, b3]
      repeat' (first | apply And.intro | intro)
      all_goals (try first | omega | contradiction | exact Or.inl trivial | exact Or.inr trivial)
    · have kk := k1 c I1 b2 b3 (b4 (by omega))
      refine b114_7 ?_
      try simp only [w_Ug, reduceIte, Nat.reduceEqDiff, Int.reduceEq, eq_self, r14, b3]
      repeat' (first | apply And.intro | intro)
      all_goals (try first | omega | contradiction | exact Or.inl trivial | exact Or.inr trivial)
  have loop : ∀ (n : Nat) (f g best who : Int) (u3 : Option Value) (I1 : w_I), w_fr p114 I I1 → I1 102 1 = best → (0 < best → 100 * I1 102 2 + I1 102 3 = who) → 0 ≤ f → f < s 8 → f < g → g ≤ s 8 → 32 * (s 8 - f) + (s 8 - g) < n → 0 ≤ best → best ≤ 2000 → R = v_scan F s n f g best who →
      w_T xs xl 114 25 [some (.ref 102), some (w_i f), some (w_i g), u3] [] [] I1 J b Q := by
    intro n
    induction n with
    | zero => intro f g best who u3 I1 a0 d1 d2 a1 a2 a3 a4 a5; omega
    | succ n ih =>
      intro f g best who u3 I1 a0 d1 d2 a1 a2 a3 a4 a5 a6 a7 a8
      have rf1 := pK_rf (p114_K a0) rf
      have r14 : I1 20 14 = s 8 := by
        have rf1 := pK_rf (p114_K a0) rf
        simp only [c_rf, Nat.reduceAdd] at rf1
        exact rf1.2.1
      have rt1 := pK_rt (p114_K a0) rt
      have cd1 := pK_cd (p114_K a0) cd
      have ag1 : c_ag I1 s 0 (s 3) := by
        unfold c_ag
        rw [w_frA (a := 82) a0 (fun _ => rfl), w_frA (a := 83) a0 (fun _ => rfl)]
        exact ag
      rw [v_scan_s] at a8
      by_cases hg : g < s 8
      · rw [if_pos hg] at a8
        have gb := m_gain_b (s := s) (F := F) (f := f) (g := g)
        refine b114_25 ?_
        try simp only [w_Ug, reduceIte, Nat.reduceEqDiff, Int.reduceEq, eq_self, r14]
        repeat' (first | apply And.intro | intro)
        all_goals (try first | omega | contradiction | exact Or.inl trivial | exact Or.inr trivial)
        refine c115 rf1 wf ag1 (by omega) (by omega) (fun hm => ?_) (fun hm => ?_)
        · refine b114_45 ?_
          try simp only [w_Ug, reduceIte, Nat.reduceEqDiff, Int.reduceEq, eq_self, if_true]
          repeat' (first | apply And.intro | intro)
          all_goals (try first | omega | contradiction | exact Or.inl trivial | exact Or.inr trivial)
          refine c116 rf1 rt1 wf cd1 ag1 hm (fun I2 fr2 => ?_)
          have fr2' := w_frt a0 (pV_114 fr2)
          have e1 : I2 102 1 = best := by rw [w_frA fr2 (fun _ => rfl)]; exact d1
          have e2 : 0 < best → 100 * I2 102 2 + I2 102 3 = who := fun h => by rw [w_frA fr2 (fun _ => rfl)]; exact d2 h
          by_cases x6 : best < m_gain F s f g
          · rw [if_pos ⟨hm, x6⟩] at a8
            refine b114_54 ?_
            try simp only [w_Ug, reduceIte, Nat.reduceEqDiff, Int.reduceEq, eq_self, e1]
            repeat' (first | apply And.intro | intro)
            all_goals (try first | omega | contradiction | exact Or.inl trivial | exact Or.inr trivial)
            refine ih f (g + 1) _ _ _ _ (w_frU (w_frU (w_frU fr2' rfl) rfl) rfl) ?_ (fun _ => ?_) a1 a2 (by omega) (by omega) (by omega) (by omega) (by omega) a8
            · simp only [w_Ug, reduceIte, Int.reduceEq]
            · simp only [w_Ug, reduceIte, Int.reduceEq]
          · rw [if_neg (fun z => x6 z.2)] at a8
            refine b114_54 ?_
            try simp only [w_Ug, reduceIte, Nat.reduceEqDiff, Int.reduceEq, eq_self, e1]
            repeat' (first | apply And.intro | intro)
            all_goals (try first | omega | contradiction | exact Or.inl trivial | exact Or.inr trivial)
            exact ih f (g + 1) best who _ I2 fr2' e1 e2 a1 a2 (by omega) (by omega) (by omega) a6 a7 a8
        · rw [if_neg (fun z => hm z.1)] at a8
          refine b114_45 ?_
          try simp only [w_Ug, reduceIte, Nat.reduceEqDiff, Int.reduceEq, eq_self, if_true]
          repeat' (first | apply And.intro | intro)
          all_goals (try first | omega | contradiction | exact Or.inl trivial | exact Or.inr trivial)
          exact ih f (g + 1) best who _ I1 a0 d1 d2 a1 a2 (by omega) (by omega) (by omega) a6 a7 a8
      · rw [if_neg hg] at a8
        refine b114_25 ?_
        try simp only [w_Ug, reduceIte, Nat.reduceEqDiff, Int.reduceEq, eq_self, r14]
        repeat' (first | apply And.intro | intro)
        all_goals (try first | omega | contradiction | exact Or.inl trivial | exact Or.inr trivial)
        by_cases hf : f + 1 < s 8
        · rw [if_pos hf] at a8
          refine b114_7 ?_
          try simp only [w_Ug, reduceIte, Nat.reduceEqDiff, Int.reduceEq, eq_self, r14]
          repeat' (first | apply And.intro | intro)
          all_goals (try first | omega | contradiction | exact Or.inl trivial | exact Or.inr trivial)
          rw [show f + 1 + 1 = f + 2 by omega]
          exact ih (f + 1) (f + 2) best who _ I1 a0 d1 d2 (by omega) hf (by omega) (by omega) (by omega) a6 a7 a8
        · rw [if_neg hf] at a8
          exact fin (f + 1) best who _ _ I1 (by omega) (by omega) a0 d1 d2 a6 a7 a8
  have fr0 : w_fr p114 I (w_U I 102 1 0) := w_frU w_frr rfl
  have r14 : I 20 14 = s 8 := by
    have rf1 := rf
    simp only [c_rf, Nat.reduceAdd] at rf1
    exact rf1.2.1
  by_cases h0 : 0 < s 8
  · refine b114_7 ?_
    try simp only [w_Ug, reduceIte, Nat.reduceEqDiff, Int.reduceEq, eq_self, r14]
    repeat' (first | apply And.intro | intro)
    all_goals (try first | omega | contradiction | exact Or.inl trivial | exact Or.inr trivial)
    exact loop 1000 0 1 0 0 _ _ fr0 (by rw [w_Ug, if_pos rfl, if_pos rfl]) (fun h => by omega) (by omega) h0 (by omega) (by omega) (by omega) (by omega) (by omega) hR.symm
  · refine fin 0 0 0 _ _ _ (by omega) (by omega) fr0 (by rw [w_Ug, if_pos rfl, if_pos rfl]) (fun h => by omega) (by omega) (by omega) ?_
    rw [← hR, v_scan_s, if_neg (by omega), if_neg (by omega)]
theorem c148 {F : m_F} {a : Int} (rf : c_rf 20 I s) (rt : c_rt I s) (wf : m_wf s) (cd : c_cd (I 5) (I 6) (I 7) F s) (ha : w_in a) (kN : ¬ (0 ≤ a ∧ a ≤ 1) → Q (some (w_i (-1))) I J b)
    (k : 0 ≤ a ∧ a ≤ 1 → ∀ I', w_fr pK I I' → Q (some (w_i (m_chv F s a))) I' J b) : w_C xs xl 148 [.ref 0, w_i a] I J b Q := by
  refine e148 ?_
  by_cases h : 0 ≤ a ∧ a ≤ 1
  · have k := k h
    unfold m_chv at k
    refine b148_0 ?_
    try simp only [w_Ug, reduceIte, Nat.reduceEqDiff, Int.reduceEq, eq_self, if_true]
    repeat' (first | apply And.intro | intro)
    all_goals (try first | omega | contradiction | exact Or.inl trivial | exact Or.inr trivial)
    refine c21 rf rt wf (fun I1 g1 ag1 => b148_18 ?_)
    have fr1 := pA_K (pA_fr g1)
    refine c114 (pK_rf fr1 rf) (pK_rt fr1 rt) wf (pK_cd fr1 cd) ag1 (fun hc I2 fr2 e1 e2 => ?_) (fun hc I2 fr2 => ?_)
    · have k := k I2 (w_frt fr1 (p114_K fr2))
      rw [if_neg hc] at k
      refine b148_25 ?_
      try simp only [w_Ug, reduceIte, Nat.reduceEqDiff, Int.reduceEq, eq_self, e1, e2]
      repeat' (first | apply And.intro | intro)
      all_goals (try first | omega | contradiction | exact Or.inl trivial | exact Or.inr trivial)
      · rename_i c
        rw [if_neg c] at k; exact k
      · rename_i c
        rw [if_pos c] at k; exact k
    · have k := k I2 (w_frt fr1 (p114_K fr2))
      rw [if_pos hc] at k
      refine b148_25 ?_
      try simp only [w_Ug, reduceIte, Nat.reduceEqDiff, Int.reduceEq, eq_self, if_true]
      repeat' (first | apply And.intro | intro)
      all_goals (try first | omega | contradiction | exact Or.inl trivial | exact Or.inr trivial)
  · have kk := kN h
    refine b148_0 ?_
    try simp only [w_Ug, reduceIte, Nat.reduceEqDiff, Int.reduceEq, eq_self, if_true]
    repeat' (first | apply And.intro | intro)
    all_goals (try first | omega | contradiction | exact Or.inl trivial | exact Or.inr trivial)
end
