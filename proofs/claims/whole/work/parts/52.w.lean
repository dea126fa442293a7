section
/-! calls: worth -/
variable {xs : Nat → Int32} {xl : Nat} {I J : w_I} {b : Bool} {Q : Option Value → w_I → w_I → Bool → Prop}
variable {s : Int → Int}
def m_worth (F : m_F) (s : Int → Int) (f h : Int) : Int := m_clamp (m_lawv F s (m_vr (m_ag s f (-1) 0 (s 3)) (m_sz s f (-1)) (m_lm s f (-1)) (s 9 % 12) 0 h 0 0 (if s (460 + 3 * f + 2) = h then 1 else 0) (s (50 + h))) 1 (s (50 + h))) 999
theorem m_worth_in (w : m_w0 s) {f h : Int} (hh : 0 ≤ h ∧ h < s 0) : ∀ i, w_in (m_vr (m_ag s f (-1) 0 (s 3)) (m_sz s f (-1)) (m_lm s f (-1)) (s 9 % 12) 0 h 0 0 (if s (460 + 3 * f + 2) = h then 1 else 0) (s (50 + h)) i) := by
  have w0 := w.1
  have w1 := w.2.1 h hh.1 hh.2
  have ha := m_ag_b (f := f) (g := -1) (t := 0) (by' := s 3) w
  have hz := m_sz_b w (f := f) (g := -1)
  have hl := m_lm_b w (f := f) (g := -1)
  refine m_vr_in ⟨by omega, by omega, by omega, by omega, by decide, by omega, by decide, by decide, ?_, by omega⟩
  split <;> decide
def pN (a : Nat) (k : Int) : Bool := pC a k || p216 a k
theorem pC_N {I I' : w_I} (h : w_fr pC I I') : w_fr pN I I' := w_frm h (fun a k e => by
  unfold pN at e
  cases h : pC a k
  · rfl
  · rw [h, Bool.true_or] at e; cases e)
theorem p216_N {I I' : w_I} (h : w_fr p216 I I') : w_fr pN I I' := w_frm h (fun a k e => by
  unfold pN at e
  cases h : p216 a k
  · rfl
  · rw [h, Bool.or_true] at e; cases e)
theorem s269 {F : m_F} {f h : Int} (hs : I 110 = s) (hF : m_at I F) (w : m_w0 s) (cd : m_cd F s) (hf : 0 ≤ f ∧ f < s 8) (hh : 0 ≤ h ∧ h < s 0)
    (k : ∀ I', w_fr pN I I' → Q (some (w_i (m_worth F s f h))) I' J b) : w_C xs xl 269 [.ref 104, w_i f, w_i h] I J b Q := by
  have w0 := w.1
  have w1 := w.2.1 h hh.1 hh.2
  have w3 := w.2.2.2.1 f hf.1 hf.2
  have vin := m_worth_in (f := f) w hh
  unfold m_worth at k
  refine e269 (b269_0 ?_)
  refine s217 hs w (by omega) (fun I1 fr1 e1 e2 e3 => b269_5 ?_)
  refine s204 (fun I2 h1 h2 => ?_)
  have hs2 : I2 110 = s := ((h1 110 (by decide)).trans (w_frA fr1 (fun _ => rfl))).trans hs
  have i104 : I2 104 = I1 104 := h1 104 (by decide)
  have fr2 : w_fr pN I I2 := w_frt (p216_N fr1) (pC_N (f124_C h1))
  have fin : ∀ (lv : Int) (I3 : w_I) (u1 u2 : Option Value), lv = (if s (460 + 3 * f + 2) = h then 1 else 0) → I3 = w_U (w_U (w_U (w_U (w_U (w_U (w_U I2 124 0 (m_ag s f (-1) 0 (s 3))) 124 1 (m_sz s f (-1))) 124 2 (m_lm s f (-1))) 124 3 (s 9 % 12)) 124 5 h) 124 8 lv) 124 9 (s (50 + h)) → w_C xs xl 208 [.ref 104, w_i 1, w_i (s (50 + h)), w_i 999] I3 J b (fun v Ic Jc bc => w_T xs xl 269 125 [some (.ref 104), u1, u2] [] (w_pv v []) Ic Jc bc Q) := by
    intro lv I3 u1 u2 elv e
    rw [← elv] at k vin
    have fr3 : w_fr pN I I3 := by rw [e]; exact w_frU (w_frU (w_frU (w_frU (w_frU (w_frU (w_frU fr2 rfl) rfl) rfl) rfl) rfl) rfl) rfl
    have hs3 : I3 110 = s := (w_frA fr3 (fun _ => rfl)).trans hs
    have hF3 := m_at_fr hF fr3 (fun _ => rfl) (fun _ => rfl) (fun _ => rfl) (fun _ => rfl) (fun _ => rfl) (fun _ => rfl) (fun _ => rfl) (fun _ => rfl)
    generalize hV : m_vr (m_ag s f (-1) 0 (s 3)) (m_sz s f (-1)) (m_lm s f (-1)) (s 9 % 12) 0 h 0 0 lv (s (50 + h)) = V at k vin
    have v2 : ∀ j, 0 ≤ j → j < 10 → I3 124 j = V j := by
      intro j x y
      rw [e, ← hV]
      simp only [w_Ug, reduceIte, h2 j x y]
      unfold m_vr
      by_cases x9 : j = 9
      · subst x9; simp
      · by_cases x8 : j = 8
        · subst x8; simp
        · by_cases x5 : j = 5
          · subst x5; simp
          · by_cases x3 : j = 3
            · subst x3; simp
            · by_cases x2 : j = 2
              · subst x2; simp
              · by_cases x1 : j = 1
                · subst x1; simp
                · by_cases x0 : j = 0
                  · subst x0; simp
                  · simp only [if_neg x9, if_neg x8, if_neg x5, if_neg x3, if_neg x2, if_neg x1, if_neg x0]
                    repeat' split
                    all_goals first | rfl | omega
    refine s208 hs3 hF3 rfl (by decide) (by omega) (by decide) (cd.1 1 (by decide) (by decide)) (fun j x y => by rw [v2 j x y]; exact vin j) (fun I4 fr4 => b269_125 ?_)
    rw [m_lawc v2 (cd.1 1 (by decide) (by decide))]
    exact k I4 (w_frt fr3 (pC_N (p205_C fr4)))
  refine b269_9 ?_
  try simp only [w_Ug, reduceIte, Nat.reduceEqDiff, Int.reduceEq, eq_self, hs2, i104, e1, e2, e3]
  repeat' (first | apply And.intro | intro)
  all_goals (try first | omega | contradiction | exact Or.inl trivial | exact Or.inr trivial)
  · rename_i x
    exact fin _ _ _ _ (by rw [if_neg x]) rfl
  · rename_i x
    exact fin _ _ _ _ (by rw [if_pos x]) rfl
theorem s270 {F : m_F} {f h : Int} (hs : I 110 = s) (hF : m_at I F) (w : m_w0 s) (cd : m_cd F s) (hf : w_in f) (hh : w_in h)
    (k1 : m_isF s f ∧ 0 ≤ h ∧ h < s 0 → ∀ I', w_fr pN I I' → Q (some (w_i (m_worth F s f h))) I' J b) (k0 : ¬ (m_isF s f ∧ 0 ≤ h ∧ h < s 0) → Q (some (w_i (-1))) I J b) : w_C xs xl 270 [.ref 104, w_i f, w_i h] I J b Q := by
  refine e270 (b270_0 ?_)
  refine s211 hs w hf (fun h1 => ?_) (fun h1 => ?_)
  · refine b270_5 ?_
    try simp only [w_Ug, reduceIte, Nat.reduceEqDiff, Int.reduceEq, eq_self, hs]
    repeat' (first | apply And.intro | intro)
    all_goals (try first | omega | contradiction | exact Or.inl trivial | exact Or.inr trivial)
    refine s212 hs w hh (fun h2 => ?_) (fun h2 => ?_)
    · refine b270_13 ?_
      try simp only [w_Ug, reduceIte, Nat.reduceEqDiff, Int.reduceEq, eq_self, hs]
      repeat' (first | apply And.intro | intro)
      all_goals (try first | omega | contradiction | exact Or.inl trivial | exact Or.inr trivial)
      exact s269 hs hF w cd ⟨h1.1, h1.2.1⟩ h2 (fun I' fr => b270_22 (k1 ⟨h1, h2⟩ I' fr))
    · have kk := k0 (fun x => h2 x.2)
      refine b270_13 ?_
      try simp only [w_Ug, reduceIte, Nat.reduceEqDiff, Int.reduceEq, eq_self, hs]
      repeat' (first | apply And.intro | intro)
      all_goals (try first | omega | contradiction | exact Or.inl trivial | exact Or.inr trivial)
  · have kk := k0 (fun x => h1 x.1)
    refine b270_5 ?_
    try simp only [w_Ug, reduceIte, Nat.reduceEqDiff, Int.reduceEq, eq_self, hs]
    repeat' (first | apply And.intro | intro)
    all_goals (try first | omega | contradiction | exact Or.inl trivial | exact Or.inr trivial)
theorem c113 {F : m_F} {f h : Int} (rf : c_rf 20 I s) (rt : c_rt I s) (w : m_w0 s) (cd : c_cd (I 5) (I 6) (I 7) F s) (ag : c_ag I s 0 (s 3)) (hf : m_isF s f) (hh : 0 ≤ h ∧ h < s 0)
    (k : ∀ I', w_fr pV I I' → Q (some (w_i (m_worth F s f h))) I' J b) : w_C xs xl 113 [.ref 102, w_i f, w_i h] I J b Q := by
  have w0 := w.1
  have hf1 := hf.1
  have hf2 := hf.2.1
  have hf3 := hf.2.2
  have w1 := w.2.1 h hh.1 hh.2
  have w3 := w.2.2.2.1 f hf1 hf2
  have vin := m_worth_in (f := f) w hh
  have t4 := (rt.2.2.2.2.2 h hh.1 hh.2).2
  have rf' := rf
  simp only [c_rf, Nat.reduceAdd] at rf'
  obtain ⟨-, -, -, -, -, rff, -⟩ := rf'
  have r29 := (rff f hf1 hf2).2.2.2.2.2
  obtain ⟨a82, a83⟩ := ag f hf1 hf2
  unfold m_worth at k
  refine e113 (b113_0 ?_)
  refine c28 rf w ⟨hf1, hf2⟩ (fun I1 fr1 v1 => ?_)
  rw [a82] at v1
  have i4 : I1 4 h = s (50 + h) := by rw [w_frA fr1 (fun _ => rfl)]; exact t4
  have i29 : I1 29 f = I 29 f := by rw [w_frA fr1 (fun _ => rfl)]
  have hlv : (I 29 f = h ↔ s (460 + 3 * f + 2) = h) ∧ w_in (I 29 f) := by omega
  have fin : ∀ (lv : Int) (I3 : w_I) (u1 u2 : Option Value), lv = (if s (460 + 3 * f + 2) = h then 1 else 0) → I3 = w_U (w_U (w_U I1 80 9 (s (50 + h))) 80 5 h) 80 8 lv → w_C xs xl 96 [.ref 79, w_i 1] I3 J b (fun v Ic Jc bc => w_T xs xl 113 91 [some (.ref 102), u1, u2] [] (w_pv v []) Ic Jc bc Q) := by
    intro lv I3 u1 u2 elv e
    rw [← elv] at k vin
    have fr3 : w_fr pV I I3 := by rw [e]; exact w_frU (w_frU (w_frU (p80_V fr1) rfl) rfl) rfl
    generalize hV : m_vr (m_ag s f (-1) 0 (s 3)) (m_sz s f (-1)) (m_lm s f (-1)) (s 9 % 12) 0 h 0 0 lv (s (50 + h)) = V at k vin
    have v2 : ∀ j, 0 ≤ j → j < 10 → I3 80 j = V j := by
      intro j x y
      rw [e, ← hV]
      simp only [w_Ug, reduceIte, v1 j x y]
      unfold m_vr
      by_cases x8 : j = 8
      · subst x8; simp
      · by_cases x5 : j = 5
        · subst x5; simp
        · by_cases x9 : j = 9
          · subst x9; simp
          · simp only [if_neg x8, if_neg x5, if_neg x9]
            repeat' split
            all_goals first | rfl | omega
    have cd2 := c_cd_fr cd fr3 (fun _ => rfl) (fun _ => rfl) (fun _ => rfl)
    refine c_law (w := 1) cd2 rfl (by decide) (fun i x y => by rw [v2 i x y]; exact vin i) (fun v ev hvin I4 fr4 => b113_91 ?_)
    refine c161 hvin (by decide) (b113_97 ?_)
    have e1 : f_oth (I3 80) 1 = s (50 + h) := by
      show I3 80 9 = _
      rw [v2 9 (by decide) (by decide), ← hV]
      rfl
    rw [e1, m_lawc v2 (c_lok cd (by decide))] at ev
    rw [ev]
    exact k I4 (w_frt fr3 (p96_V fr4))
  have hl1 := hlv.2
  refine b113_8 ?_
  try simp only [w_Ug, reduceIte, Nat.reduceEqDiff, Int.reduceEq, eq_self, i4, i29]
  repeat' (first | apply And.intro | intro)
  all_goals (try first | omega | contradiction | exact Or.inl trivial | exact Or.inr trivial)
  · rename_i x
    exact fin _ _ _ _ (by rw [if_neg (fun y => x (hlv.1.mpr y))]) rfl
  · rename_i x
    exact fin _ _ _ _ (by rw [if_pos (hlv.1.mp x)]) rfl
def pY (a : Nat) (k : Int) : Bool := pA a k || pV a k
theorem pA_Y {I I' : w_I} (h : w_fr pA I I') : w_fr pY I I' := w_frm h (fun a k e => by
  unfold pY at e
  cases h : pA a k
  · rfl
  · rw [h, Bool.true_or] at e; cases e)
theorem pV_Y {I I' : w_I} (h : w_fr pV I I') : w_fr pY I I' := w_frm h (fun a k e => by
  unfold pY at e
  cases h : pV a k
  · rfl
  · rw [h, Bool.or_true] at e; cases e)
theorem c147 {F : m_F} {f h : Int} (rf : c_rf 20 I s) (rt : c_rt I s) (wf : m_wf s) (cd : c_cd (I 5) (I 6) (I 7) F s) (hf : w_in f) (hh : w_in h)
    (k1 : m_isF s f ∧ 0 ≤ h ∧ h < s 0 → ∀ I', w_fr pY I I' → Q (some (w_i (m_worth F s f h))) I' J b) (k0 : ¬ (m_isF s f ∧ 0 ≤ h ∧ h < s 0) → Q (some (w_i (-1))) I J b) : w_C xs xl 147 [.ref 0, w_i f, w_i h] I J b Q := by
  refine e147 (b147_0 ?_)
  refine c6 rf wf hf (fun h1 => ?_) (fun h1 => ?_)
  · refine b147_8 ?_
    try simp only [w_Ug, reduceIte, Nat.reduceEqDiff, Int.reduceEq, eq_self, if_true]
    repeat' (first | apply And.intro | intro)
    all_goals (try first | omega | contradiction | exact Or.inl trivial | exact Or.inr trivial)
    refine c156 rt wf.1 hh (fun h2 => ?_) (fun h2 => ?_)
    · refine b147_16 ?_
      try simp only [w_Ug, reduceIte, Nat.reduceEqDiff, Int.reduceEq, eq_self, if_true]
      repeat' (first | apply And.intro | intro)
      all_goals (try first | omega | contradiction | exact Or.inl trivial | exact Or.inr trivial)
      refine c21 rf rt wf (fun I1 g1 g2 => b147_28 ?_)
      have fr1 := pA_fr g1
      exact c113 (pA_rf fr1 rf) (pA_rt fr1 rt) wf.1 (c_cd_fr cd fr1 (fun _ => rfl) (fun _ => rfl) (fun _ => rfl)) g2 h1 h2 (fun I2 fr2 => b147_37 (k1 ⟨h1, h2⟩ I2 (w_frt (pA_Y fr1) (pV_Y fr2))))
    · have kk := k0 (fun x => h2 x.2)
      refine b147_16 ?_
      try simp only [w_Ug, reduceIte, Nat.reduceEqDiff, Int.reduceEq, eq_self, if_true]
      repeat' (first | apply And.intro | intro)
      all_goals (try first | omega | contradiction | exact Or.inl trivial | exact Or.inr trivial)
  · have kk := k0 (fun x => h1 x.1)
    refine b147_8 ?_
    try simp only [w_Ug, reduceIte, Nat.reduceEqDiff, Int.reduceEq, eq_self, if_true]
    repeat' (first | apply And.intro | intro)
    all_goals (try first | omega | contradiction | exact Or.inl trivial | exact Or.inr trivial)
end
