section
/-! the reference: what is unlawful -/
variable {xs : Nat → Int32} {xl : Nat} {I J : w_I} {b : Bool} {Q : Option Value → w_I → w_I → Bool → Prop}
variable {s : Int → Int}
def m_cd (F : m_F) (s : Int → Int) : Prop :=
  (∀ w, 0 ≤ w → w < 4 → s (11 + 2 * w) = -1 ∨ (0 ≤ s (11 + 2 * w) ∧ m_seg F (s (11 + 2 * w)) (s (11 + 2 * w + 1)))) ∧
  (∀ r, 0 ≤ r → r < s 4 → 0 ≤ s (80 + 2 * r) ∧ s (80 + 2 * r) ≤ s (80 + 2 * r + 1) ∧ s (80 + 2 * r + 1) ≤ 200 ∧ (∀ k, s (80 + 2 * r) ≤ k → k < s (80 + 2 * r + 1) → m_lok F k ∧ w_in (m_lr F k)))
theorem c_m_cd {F : m_F} {c5 c6 c7 : Int → Int} (cd : c_cd c5 c6 c7 F s) : m_cd F s := by
  refine ⟨fun w h0 h1 => c_lok cd ⟨h0, h1⟩, fun r h0 h1 => ?_⟩
  obtain ⟨-, -, -, d4, d5, d6, d7, -, -⟩ := cd.2 r h0 h1
  exact ⟨d4, by omega, d6, fun k x y => ⟨(d7 k x y).1, (d7 k x y).2.1⟩⟩
def pU (a : Nat) (k : Int) : Bool := a == 124 || a == 125 || (a == 104 && (k == 31 || k == 33 || k == 34 || k == 35))
theorem p216_U {I I' : w_I} (h : w_fr p216 I I') : w_fr pU I I' := w_frm h (fun a k e => by
  unfold pU at e
  unfold p216
  simp only [Bool.or_eq_false_iff, Bool.and_eq_false_iff] at e ⊢
  rcases e.2 with x | x
  · exact Or.inl x
  · exact Or.inr ⟨⟨x.1.1.2, x.1.2⟩, x.2⟩)
theorem p205_U {I I' : w_I} (h : w_fr p205 I I') : w_fr pU I I' := w_frm h (fun a k e => by
  unfold pU at e
  unfold p205
  simp only [Bool.or_eq_false_iff, Bool.and_eq_false_iff] at e ⊢
  refine ⟨e.1.2, ?_⟩
  rcases e.2 with x | x
  · exact Or.inl x
  · exact Or.inr x.1.1.1)
abbrev m_row2 (s : Int → Int) (a d : Int) : Prop := s (20 + a) = 0 ∨ s (20 + d) = 0 ∨ s (20 + a) = s (20 + d)
def m_unl (F : m_F) (s : Int → Int) (t by' a d : Int) : Prop := ∃ f g, m_isF s f ∧ s (460 + 3 * f + 1) = a ∧ m_isF s g ∧ s (460 + 3 * g + 1) = d ∧ m_row2 s a d ∧ m_ag s g (-1) t by' / s 1 < m_ag s f (-1) t by' / s 1 ∧
  ¬ m_forg F s (m_vr (m_ag s f (-1) t by') (m_sz s f (-1)) (m_lm s f (-1)) (s 9 % 12) 0 0 0 (m_ag s f (-1) t by' / s 1 - m_ag s g (-1) t by' / s 1) 0 0)
theorem s231 {a d : Int} (hs : I 110 = s) (w : m_w0 s) (ha : 0 ≤ a ∧ a < s 0) (hd : 0 ≤ d ∧ d < s 0) (k1 : m_row2 s a d → Q (some (w_i 1)) I J b) (k0 : ¬ m_row2 s a d → Q (some (w_i 0)) I J b) : w_C xs xl 231 [.ref 104, w_i a, w_i d] I J b Q := by
  have w0 := w.1
  have w1 := w.2.1 a ha.1 ha.2
  have w2 := w.2.1 d hd.1 hd.2
  refine e231 ?_
  refine b231_0 ?_
  try simp only [w_Ug, reduceIte, Nat.reduceEqDiff, Int.reduceEq, eq_self, hs]
  repeat' (first | apply And.intro | intro)
  all_goals (try first | omega | contradiction | exact Or.inl trivial | exact Or.inr trivial)
  all_goals first | exact k0 (by omega) | exact k1 (by omega)
theorem s232 {F : m_F} {a d wh t by' : Int} (hs : I 110 = s) (hF : m_at I F) (wf : m_wf s) (cd : m_cd F s) (ha : 0 ≤ a ∧ a < s 0) (hd : 0 ≤ d ∧ d < s 0) (hwh : 0 ≤ wh ∧ wh ≤ 2) (ht : (wh = 1 → t = 1) ∧ (wh ≠ 1 → t = 0)) (hby : (wh = 2 → by' = 1 - s 3) ∧ (wh ≠ 2 → by' = s 3))
    (k1 : m_unl F s t by' a d → ∀ I', w_fr pU I I' → Q (some (w_i 1)) I' J b) (k0 : ¬ m_unl F s t by' a d → ∀ I', w_fr pU I I' → Q (some (w_i 0)) I' J b) : w_C xs xl 232 [.ref 104, w_i a, w_i d, w_i wh] I J b Q := by
  have w := wf.1
  have w0 := w.1
  refine e232 (b232_0 ?_)
  refine s214 hs w (by omega) (fun f hf ef => b232_5 ?_) (fun em => b232_5 ?_)
  · have hf1 := hf.1
    have hf2 := hf.2.1
    refine s214 hs w (by omega) (fun g hg eg => ?_) (fun em => ?_)
    · have hg1 := hg.1
      have hg2 := hg.2.1
      -- who else lives there
      have uf : ∀ f', m_isF s f' → s (460 + 3 * f' + 1) = a → f' = f := fun f' h e => wf.2.2.2 f' f h hf (by omega) (by omega)
      have ug : ∀ g', m_isF s g' → s (460 + 3 * g' + 1) = d → g' = g := fun g' h e => wf.2.2.2 g' g h hg (by omega) (by omega)
      have bf := m_ag_b (f := f) (g := -1) (t := t) (by' := by') w
      have bg := m_ag_b (f := g) (g := -1) (t := t) (by' := by') w
      have kf : 0 ≤ m_ag s f (-1) t by' / s 1 ∧ m_ag s f (-1) t by' / s 1 ≤ 199 := ⟨Int.ediv_nonneg bf.1 (by omega), by
        have := Int.ediv_le_self (s 1) bf.1
        omega⟩
      have kg : 0 ≤ m_ag s g (-1) t by' / s 1 ∧ m_ag s g (-1) t by' / s 1 ≤ 199 := ⟨Int.ediv_nonneg bg.1 (by omega), by
        have := Int.ediv_le_self (s 1) bg.1
        omega⟩
      have zf := m_sz_b w (f := f) (g := -1)
      have lf := m_lm_b w (f := f) (g := -1)
      refine b232_12 ?_
      try simp only [w_Ug, reduceIte, Nat.reduceEqDiff, Int.reduceEq, eq_self, hs]
      repeat' (first | apply And.intro | intro)
      all_goals (try first | omega | contradiction | exact Or.inl trivial | exact Or.inr trivial)
      refine s231 hs w ha hd (fun hr => ?_) (fun hr => ?_)
      · have p2 : ∀ (I1 : w_I) (u1 u2 u3 u4 u5 u6 u8 u9 : Option Value), w_fr pU I I1 → I1 104 33 = m_sz s f (-1) → I1 104 34 = m_lm s f (-1) → I1 104 35 = m_ag s f (-1) t by' →
            w_T xs xl 232 110 [some (.ref 104), u1, u2, u3, u4, u5, u6, some (w_i (m_ag s g (-1) t by' / s 1)), u8, u9] [] [] I1 J b Q := by
          intro I1 u1 u2 u3 u4 u5 u6 u8 u9 fr1 q33 q34 q35
          have hs1 : I1 110 = s := (w_frA fr1 (fun _ => rfl)).trans hs
          by_cases hlt : m_ag s g (-1) t by' / s 1 < m_ag s f (-1) t by' / s 1
          · have vin : ∀ i, w_in (m_vr (m_ag s f (-1) t by') (m_sz s f (-1)) (m_lm s f (-1)) (s 9 % 12) 0 0 0 (m_ag s f (-1) t by' / s 1 - m_ag s g (-1) t by' / s 1) 0 0 i) := m_vr_in ⟨by omega, by omega, by omega, by omega, by decide, by decide, by decide, by omega, by decide, by decide⟩
            have hun : m_unl F s t by' a d ↔ ¬ m_forg F s (m_vr (m_ag s f (-1) t by') (m_sz s f (-1)) (m_lm s f (-1)) (s 9 % 12) 0 0 0 (m_ag s f (-1) t by' / s 1 - m_ag s g (-1) t by' / s 1) 0 0) := by
              constructor
              · rintro ⟨f', g', x1, x2, x3, x4, x5, x6, x7⟩
                rw [uf f' x1 x2, ug g' x3 x4] at x7
                exact x7
              · intro x
                exact ⟨f, g, hf, ef, hg, eg, hr, hlt, x⟩
            generalize hV : m_vr (m_ag s f (-1) t by') (m_sz s f (-1)) (m_lm s f (-1)) (s 9 % 12) 0 0 0 (m_ag s f (-1) t by' / s 1 - m_ag s g (-1) t by' / s 1) 0 0 = V at vin hun
            refine b232_110 ?_
            try simp only [w_Ug, reduceIte, Nat.reduceEqDiff, Int.reduceEq, eq_self, hs1, q35]
            repeat' (first | apply And.intro | intro)
            all_goals (try first | omega | contradiction | exact Or.inl trivial | exact Or.inr trivial)
            refine s204 (fun I2 h1 h2 => ?_)
            have hs2 : I2 110 = s := (h1 110 (by decide)).trans hs1
            have i104 : I2 104 = I1 104 := h1 104 (by decide)
            refine b232_136 ?_
            try simp only [w_Ug, reduceIte, Nat.reduceEqDiff, Int.reduceEq, eq_self, hs2, i104, q33, q34, q35]
            repeat' (first | apply And.intro | intro)
            all_goals (try first | omega | contradiction | exact Or.inl trivial | exact Or.inr trivial)
            have loop : ∀ (m : Nat) (l9 : Int) (u1 u2 u3 u4 u5 u6 u7 u8 : Option Value) (I3 : w_I), l9 + m = s 4 → 0 ≤ l9 → w_fr pU I I3 → (∀ i, 0 ≤ i → i < 10 → I3 124 i = V i) → (∀ r, 0 ≤ r → r < l9 → m_rulev F V (s (80 + 2 * r)) (s (80 + 2 * r + 1)) = false) →
                w_T xs xl 232 197 [some (.ref 104), u1, u2, u3, u4, u5, u6, u7, u8, some (w_i l9)] [] [] I3 J b Q := by
              intro m
              induction m with
              | zero =>
                intro l9 u1 u2 u3 u4 u5 u6 u7 u8 I3 a0 a1 a2 a3 a4
                have hs3 : I3 110 = s := (w_frA a2 (fun _ => rfl)).trans hs
                have kk := k1 (hun.mpr (fun ⟨r, x, y, z⟩ => by rw [a4 r x (by omega)] at z; cases z)) I3 a2
                refine b232_197 ?_
                try simp only [w_Ug, reduceIte, Nat.reduceEqDiff, Int.reduceEq, eq_self, hs3]
                repeat' (first | apply And.intro | intro)
                all_goals (try first | omega | contradiction | exact Or.inl trivial | exact Or.inr trivial)
              | succ m ih =>
                intro l9 u1 u2 u3 u4 u5 u6 u7 u8 I3 a0 a1 a2 a3 a4
                have hs3 : I3 110 = s := (w_frA a2 (fun _ => rfl)).trans hs
                have hF3 := m_at_fr hF a2 (fun _ => rfl) (fun _ => rfl) (fun _ => rfl) (fun _ => rfl) (fun _ => rfl) (fun _ => rfl) (fun _ => rfl) (fun _ => rfl)
                obtain ⟨d1, d2, d3, d4⟩ := cd.2 l9 a1 (by omega)
                have rc := m_rulec (F := F) a3 (fun k x y => (d4 k x y).1)
                refine b232_197 ?_
                try simp only [w_Ug, reduceIte, Nat.reduceEqDiff, Int.reduceEq, eq_self, hs3]
                repeat' (first | apply And.intro | intro)
                all_goals (try first | omega | contradiction | exact Or.inl trivial | exact Or.inr trivial)
                refine s207 hF3 rfl ⟨d1, d2, by omega⟩ d4 (fun i x y => by rw [a3 i x y]; exact vin i) (fun hr I4 fr4 => ?_) (fun hr I4 fr4 => ?_)
                · have kk := k0 (fun x => hun.mp x ⟨l9, a1, by omega, by rw [← rc]; exact hr⟩) I4 (w_frt a2 (p205_U fr4))
                  refine b232_238 ?_
                  try simp only [w_Ug, reduceIte, Nat.reduceEqDiff, Int.reduceEq, eq_self, if_true]
                  repeat' (first | apply And.intro | intro)
                  all_goals (try first | omega | contradiction | exact Or.inl trivial | exact Or.inr trivial)
                · refine b232_238 ?_
                  try simp only [w_Ug, reduceIte, Nat.reduceEqDiff, Int.reduceEq, eq_self, if_true]
                  repeat' (first | apply And.intro | intro)
                  all_goals (try first | omega | contradiction | exact Or.inl trivial | exact Or.inr trivial)
                  refine ih (l9 + 1) _ _ _ _ _ _ _ _ I4 (by omega) (by omega) (w_frt a2 (p205_U fr4)) (fun i x y => by rw [w_frA fr4 (fun _ => rfl)]; exact a3 i x y) (fun r x y => ?_)
                  by_cases e : r = l9
                  · subst e; rw [← rc]; exact hr
                  · exact a4 r x (by omega)
            have fr2 : w_fr pU I I2 := w_frt fr1 (fun a k e => by
              have : a ≠ 124 := by
                intro x
                subst x
                cases e
              rw [h1 a this])
            refine loop (s 4).toNat 0 _ _ _ _ _ _ _ _ _ (by omega) (by omega) (w_frU (w_frU (w_frU (w_frU (w_frU fr2 rfl) rfl) rfl) rfl) rfl) (fun i x y => ?_) (fun r x y => by omega)
            have z := h2 i x y
            rw [← hV]
            simp only [w_Ug, reduceIte, z]
            unfold m_vr
            by_cases x7 : i = 7
            · subst x7; simp
            · by_cases x3 : i = 3
              · subst x3; simp
              · by_cases x2 : i = 2
                · subst x2; simp
                · by_cases x1 : i = 1
                  · subst x1; simp
                  · by_cases x0 : i = 0
                    · subst x0; simp
                    · simp only [if_neg x7, if_neg x3, if_neg x2, if_neg x1, if_neg x0]
                      repeat' split
                      all_goals rfl
          · have kk := k0 (fun ⟨f', g', x1, x2, x3, x4, x5, x6, x7⟩ => by
              rw [uf f' x1 x2, ug g' x3 x4] at x6
              exact hlt x6) I1 fr1
            refine b232_110 ?_
            try simp only [w_Ug, reduceIte, Nat.reduceEqDiff, Int.reduceEq, eq_self, hs1, q35]
            repeat' (first | apply And.intro | intro)
            all_goals (try first | omega | contradiction | exact Or.inl trivial | exact Or.inr trivial)
        have p1 : ∀ (I1 : w_I) (u1 u2 u5 u7 u8 u9 : Option Value), w_fr pU I I1 → I1 104 35 = m_ag s g (-1) t by' → w_T xs xl 232 78 [some (.ref 104), u1, u2, some (w_i wh), some (w_i f), u5, some (w_i by'), u7, u8, u9] [] [] I1 J b Q := by
          intro I1 u1 u2 u5 u7 u8 u9 fr1 q35
          have hs1 : I1 110 = s := (w_frA fr1 (fun _ => rfl)).trans hs
          refine b232_78 ?_
          try simp only [w_Ug, reduceIte, Nat.reduceEqDiff, Int.reduceEq, eq_self, hs1, q35]
          repeat' (first | apply And.intro | intro)
          all_goals (try first | omega | contradiction | exact Or.inl trivial | exact Or.inr trivial)
          · have et : t = 0 := by omega
            rw [← et]
            exact s216 hs1 w (by omega) (by decide) (by omega) (by omega) (fun I2 fr2 r1 r2 r3 => p2 I2 _ _ _ _ _ _ _ _ (w_frt fr1 (p216_U fr2)) r1 r2 r3)
          · have et : t = 1 := by omega
            subst et
            exact s216 hs1 w (by omega) (by decide) (by omega) (by omega) (fun I2 fr2 r1 r2 r3 => p2 I2 _ _ _ _ _ _ _ _ (w_frt fr1 (p216_U fr2)) r1 r2 r3)
        refine b232_30 ?_
        try simp only [w_Ug, reduceIte, Nat.reduceEqDiff, Int.reduceEq, eq_self, hs]
        repeat' (first | apply And.intro | intro)
        all_goals (try first | omega | contradiction | exact Or.inl trivial | exact Or.inr trivial)
        · rw [show (0 : Int) = t by omega, show s 3 = by' by omega]
          exact s216 hs w (by omega) (by decide) (by omega) (by omega) (fun I2 fr2 r1 r2 r3 => p1 I2 _ _ _ _ _ _ (p216_U fr2) r3)
        · have et : t = 1 := by omega
          subst et
          rw [show s 3 = by' by omega]
          exact s216 hs w (by omega) (by decide) (by omega) (by omega) (fun I2 fr2 r1 r2 r3 => p1 I2 _ _ _ _ _ _ (p216_U fr2) r3)
        · rw [show (0 : Int) = t by omega, show 1 - s 3 = by' by omega]
          exact s216 hs w (by omega) (by decide) (by omega) (by omega) (fun I2 fr2 r1 r2 r3 => p1 I2 _ _ _ _ _ _ (p216_U fr2) r3)
      · have kk := k0 (fun ⟨f', g', x1, x2, x3, x4, x5, x6, x7⟩ => hr x5) I w_frr
        refine b232_30 ?_
        try simp only [w_Ug, reduceIte, Nat.reduceEqDiff, Int.reduceEq, eq_self, hs]
        repeat' (first | apply And.intro | intro)
        all_goals (try first | omega | contradiction | exact Or.inl trivial | exact Or.inr trivial)
    · have kk := k0 (fun ⟨f', g', x1, x2, x3, x4, x5, x6, x7⟩ => em g' x3 x4) I w_frr
      refine b232_12 ?_
      try simp only [w_Ug, reduceIte, Nat.reduceEqDiff, Int.reduceEq, eq_self, hs]
      repeat' (first | apply And.intro | intro)
      all_goals (try first | omega | contradiction | exact Or.inl trivial | exact Or.inr trivial)
  · have p0 : ∀ v, w_in v → w_T xs xl 232 12 [some (.ref 104), some (w_i a), some (w_i d), some (w_i wh), some (w_i (-2)), none, none, none, none, none] [] [w_i v] I J b Q := by
      intro v hv
      have kk := k0 (fun ⟨f', g', x1, x2, x3, x4, x5, x6, x7⟩ => em f' x1 x2) I w_frr
      refine b232_12 ?_
      try simp only [w_Ug, reduceIte, Nat.reduceEqDiff, Int.reduceEq, eq_self, hs]
      repeat' (first | apply And.intro | intro)
      all_goals (try first | omega | contradiction | exact Or.inl trivial | exact Or.inr trivial)
    refine s214 hs w (by omega) (fun g hg eg => ?_) (fun em => ?_)
    · have hg1 := hg.1
      have hg2 := hg.2.1
      exact p0 g (by omega)
    · exact p0 (-2) (by decide)
end
