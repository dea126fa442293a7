section
/-! the reference: people and families -/
variable {xs : Nat → Int32} {xl : Nat} {I J : w_I} {b : Bool} {Q : Option Value → w_I → w_I → Bool → Prop}
variable {s : Int → Int}
abbrev m_isP (s : Int → Int) (p : Int) : Prop := 0 ≤ p ∧ p < s 7 ∧ s (100 + 6 * p) = 1
abbrev m_isF (s : Int → Int) (f : Int) : Prop := 0 ≤ f ∧ f < s 8 ∧ s (460 + 3 * f) = 1
abbrev m_in (s : Int → Int) (f g p : Int) : Prop := s (100 + 6 * p) = 1 ∧ (s (100 + 6 * p + 5) = f ∨ s (100 + 6 * p + 5) = g)
def m_pa (s : Int → Int) (p t : Int) : Int := s (100 + 6 * p + (if t = 0 then 2 else 1)) + (s 9 - s (100 + 6 * p + 4)) / 12
def m_sz (s : Int → Int) (f g : Int) : Int := m_sum (fun p => if m_in s f g p then 1 else 0) (s 7).toNat
def m_lm (s : Int → Int) (f g : Int) : Int := m_sum (fun p => if m_in s f g p then s (100 + 6 * p + 3) else 0) (s 7).toNat
def m_sm (s : Int → Int) (f g t : Int) : Int := m_sum (fun p => if m_in s f g p then m_pa s p t else 0) (s 7).toNat
def m_mo (s : Int → Int) (f g t : Int) : Int := m_mx (fun p => if m_in s f g p then m_pa s p t else 0) (s 7).toNat
def m_ag (s : Int → Int) (f g t by' : Int) : Int := if by' = 0 ∨ m_sz s f g = 0 then m_mo s f g t else m_sm s f g t / m_sz s f g
/-- what holds of the state -/
def m_w0 (s : Int → Int) : Prop :=
  ((0 ≤ s 0 ∧ s 0 ≤ 24) ∧ (1 ≤ s 1 ∧ s 1 ≤ 20) ∧ (1 ≤ s 2 ∧ s 2 ≤ 9) ∧ (s 3 = 0 ∨ s 3 = 1) ∧ (0 ≤ s 4 ∧ s 4 ≤ 6) ∧ (0 ≤ s 7 ∧ s 7 ≤ 60) ∧ (0 ≤ s 8 ∧ s 8 ≤ 30) ∧ (0 ≤ s 9 ∧ s 9 ≤ 1200) ∧ (0 ≤ s 10 ∧ s 10 ≤ 40)) ∧
  (∀ h, 0 ≤ h → h < s 0 → (s (20 + h) = 0 ∨ s (20 + h) = 1 ∨ s (20 + h) = 2) ∧ 0 ≤ s (50 + h) ∧ s (50 + h) ≤ 99) ∧
  (∀ p, 0 ≤ p → p < s 7 → (s (100 + 6 * p) = 0 ∨ s (100 + 6 * p) = 1) ∧ (0 ≤ s (100 + 6 * p + 1) ∧ s (100 + 6 * p + 1) ≤ 99) ∧ (0 ≤ s (100 + 6 * p + 2) ∧ s (100 + 6 * p + 2) ≤ 99) ∧ (s (100 + 6 * p + 3) = 0 ∨ s (100 + 6 * p + 3) = 1) ∧ (0 ≤ s (100 + 6 * p + 4) ∧ s (100 + 6 * p + 4) ≤ s 9) ∧ (0 ≤ s (100 + 6 * p + 5) ∧ s (100 + 6 * p + 5) < s 8)) ∧
  (∀ f, 0 ≤ f → f < s 8 → (s (460 + 3 * f) = 0 ∨ s (460 + 3 * f) = 1) ∧ (-2 ≤ s (460 + 3 * f + 1) ∧ s (460 + 3 * f + 1) < s 0 ∧ s (460 + 3 * f + 1) ≠ -1) ∧ (-2 ≤ s (460 + 3 * f + 2) ∧ s (460 + 3 * f + 2) < s 0 ∧ s (460 + 3 * f + 2) ≠ -1)) ∧
  (∀ m, 0 ≤ m → m < s 10 → (0 ≤ s (550 + 3 * m) ∧ s (550 + 3 * m) ≤ 99) ∧ (0 ≤ s (550 + 3 * m + 1) ∧ s (550 + 3 * m + 1) < s 8) ∧ (0 ≤ s (550 + 3 * m + 2) ∧ s (550 + 3 * m + 2) < s 0))
def m_wf (s : Int → Int) : Prop := m_w0 s ∧
  (∀ p, m_isP s p → s (460 + 3 * s (100 + 6 * p + 5)) = 1) ∧
  (∀ f, m_isF s f → 1 ≤ m_sz s f (-1) ∧ m_sz s f (-1) ≤ 6) ∧
  (∀ f g, m_isF s f → m_isF s g → 0 ≤ s (460 + 3 * f + 1) → s (460 + 3 * f + 1) = s (460 + 3 * g + 1) → f = g)
theorem s209 {v lo hi : Int} (h1 : w_in v) (h2 : w_in lo) (h3 : w_in hi) (k1 : lo ≤ v ∧ v ≤ hi → Q (some (w_i 1)) I J b) (k0 : ¬ (lo ≤ v ∧ v ≤ hi) → Q (some (w_i 0)) I J b) : w_C xs xl 209 [w_i v, w_i lo, w_i hi] I J b Q := by
  refine e209 ?_
  refine b209_0 ?_
  try simp only [w_Ug, reduceIte, Nat.reduceEqDiff, Int.reduceEq, eq_self, hs]
  repeat' (first | apply And.intro | intro)
  all_goals (try first | omega | contradiction)
  · exact k0 (by omega)
  · exact k0 (by omega)
  · exact k1 (by omega)
theorem s210 (hs : I 110 = s) (wf : m_w0 s) {p : Int} (hp : w_in p) (k1 : m_isP s p → Q (some (w_i 1)) I J b) (k0 : ¬ m_isP s p → Q (some (w_i 0)) I J b) : w_C xs xl 210 [.ref 104, w_i p] I J b Q := by
  obtain ⟨w0, -, w2, -⟩ := wf
  have w2 := w2 p
  refine e210 ?_
  refine b210_0 ?_
  try simp only [w_Ug, reduceIte, Nat.reduceEqDiff, Int.reduceEq, eq_self, hs]
  repeat' (first | apply And.intro | intro)
  all_goals (try first | omega | contradiction)
  · exact k0 (by omega)
  · exact k0 (by omega)
  · exact k0 (by omega)
  · exact k1 (by omega)
theorem s211 (hs : I 110 = s) (wf : m_w0 s) {f : Int} (hp : w_in f) (k1 : m_isF s f → Q (some (w_i 1)) I J b) (k0 : ¬ m_isF s f → Q (some (w_i 0)) I J b) : w_C xs xl 211 [.ref 104, w_i f] I J b Q := by
  obtain ⟨w0, -, -, w3, -⟩ := wf
  have w3 := w3 f
  refine e211 ?_
  refine b211_0 ?_
  try simp only [w_Ug, reduceIte, Nat.reduceEqDiff, Int.reduceEq, eq_self, hs]
  repeat' (first | apply And.intro | intro)
  all_goals (try first | omega | contradiction)
  · exact k0 (by omega)
  · exact k0 (by omega)
  · exact k0 (by omega)
  · exact k1 (by omega)
theorem s212 (hs : I 110 = s) (wf : m_w0 s) {h : Int} (hp : w_in h) (k1 : 0 ≤ h ∧ h < s 0 → Q (some (w_i 1)) I J b) (k0 : ¬ (0 ≤ h ∧ h < s 0) → Q (some (w_i 0)) I J b) : w_C xs xl 212 [.ref 104, w_i h] I J b Q := by
  obtain ⟨w0, -⟩ := wf
  refine e212 ?_
  refine b212_0 ?_
  try simp only [w_Ug, reduceIte, Nat.reduceEqDiff, Int.reduceEq, eq_self, hs]
  repeat' (first | apply And.intro | intro)
  all_goals (try first | omega | contradiction)
  · exact k0 (by omega)
  · exact k0 (by omega)
  · exact k1 (by omega)
theorem s213 (hs : I 110 = s) {f : Int} (hf : 0 ≤ f ∧ f < 30) (k : Q (some (w_i (s (460 + 3 * f + 1)))) I J b) : w_C xs xl 213 [.ref 104, w_i f] I J b Q := by
  refine e213 ?_
  refine b213_0 ?_
  try simp only [w_Ug, reduceIte, Nat.reduceEqDiff, Int.reduceEq, eq_self, hs]
  repeat' (first | apply And.intro | intro)
  all_goals (try first | omega | contradiction)
theorem s214 (hs : I 110 = s) (wf : m_w0 s) {h : Int} (hp : w_in h) (k1 : ∀ f, m_isF s f → s (460 + 3 * f + 1) = h → Q (some (w_i f)) I J b) (k0 : (∀ f, m_isF s f → s (460 + 3 * f + 1) ≠ h) → Q (some (w_i (-2))) I J b) : w_C xs xl 214 [.ref 104, w_i h] I J b Q := by
  have w0 := wf.1
  have w3 := wf.2.2.2.1
  refine e214 (b214_0 ?_)
  have loop : ∀ (m n : Nat) (l2 : Int), (n : Int) + m = s 8 → l2 = n → (∀ f, 0 ≤ f → f < l2 → m_isF s f → s (460 + 3 * f + 1) ≠ h) → w_T xs xl 214 2 [some (.ref 104), some (w_i h), some (w_i l2)] [] [] I J b Q := by
    intro m
    induction m with
    | zero =>
      intro n l2 hn hl hq
      refine b214_2 ?_
      try simp only [w_Ug, reduceIte, Nat.reduceEqDiff, Int.reduceEq, eq_self, hs]
      repeat' (first | apply And.intro | intro)
      all_goals (try first | omega | contradiction)
      exact k0 (fun f hf => hq f hf.1 (by have := hf.2.1; omega) hf)
    | succ m ih =>
      intro n l2 hn hl hq
      have w3 := w3 l2
      refine b214_2 ?_
      try simp only [w_Ug, reduceIte, Nat.reduceEqDiff, Int.reduceEq, eq_self, hs]
      repeat' (first | apply And.intro | intro)
      all_goals (try first | omega | contradiction)
      refine s211 hs wf (by omega) (fun g => ?_) (fun g => ?_)
      · refine b214_18 ?_
        try simp only [w_Ug, reduceIte, Nat.reduceEqDiff, Int.reduceEq, eq_self, hs]
        repeat' (first | apply And.intro | intro)
        all_goals (try first | omega | contradiction)
        refine s213 hs (by omega) ?_
        refine b214_26 ?_
        try simp only [w_Ug, reduceIte, Nat.reduceEqDiff, Int.reduceEq, eq_self, hs]
        repeat' (first | apply And.intro | intro)
        all_goals (try first | omega | contradiction)
        · refine ih (n + 1) (l2 + 1) (by omega) (by omega) (fun f h0 h1 hf e => ?_)
          by_cases hfl : f = l2
          · subst hfl; omega
          · exact hq f h0 (by omega) hf e
        · exact k1 l2 g (by omega)
      · refine b214_18 ?_
        try simp only [w_Ug, reduceIte, Nat.reduceEqDiff, Int.reduceEq, eq_self, hs]
        repeat' (first | apply And.intro | intro)
        all_goals (try first | omega | contradiction)
        refine ih (n + 1) (l2 + 1) (by omega) (by omega) (fun f h0 h1 hf => ?_)
        by_cases hfl : f = l2
        · subst hfl; exact absurd hf g
        · exact hq f h0 (by omega) hf
  exact loop (s 8).toNat 0 0 (by omega) rfl (fun f h0 h1 => by omega)
theorem s215 (hs : I 110 = s) (wf : m_w0 s) {p t : Int} (hp : 0 ≤ p ∧ p < s 7) (ht : w_in t) (k : Q (some (w_i (m_pa s p t))) I J b) : w_C xs xl 215 [.ref 104, w_i p, w_i t] I J b Q := by
  obtain ⟨w0, -, w2, -⟩ := wf
  have w2 := w2 p hp.1 hp.2
  refine e215 ?_
  unfold m_pa at k
  refine b215_0 ?_
  try simp only [w_Ug, reduceIte, Nat.reduceEqDiff, Int.reduceEq, eq_self, hs]
  repeat' (first | apply And.intro | intro)
  all_goals (try first | omega | contradiction)
  · rename_i e
    rw [if_pos e] at k
    exact k
  · rename_i e
    rw [if_neg e] at k
    exact k
def p216 (a : Nat) (k : Int) : Bool := a == 104 && (k == 33 || k == 34 || k == 35)
theorem m_pa_b (wf : m_w0 s) {p t : Int} (hp : 0 ≤ p ∧ p < s 7) : 0 ≤ m_pa s p t ∧ m_pa s p t ≤ 199 := by
  obtain ⟨w0, -, w2, -⟩ := wf
  have w2 := w2 p hp.1 hp.2
  unfold m_pa
  split <;> omega
theorem s216 (hs : I 110 = s) (wf : m_w0 s) {f g t by' : Int} (hf : w_in f) (hg : w_in g) (ht : w_in t) (hb : w_in by')
    (k : ∀ I', w_fr p216 I I' → I' 104 33 = m_sz s f g → I' 104 34 = m_lm s f g → I' 104 35 = m_ag s f g t by' → Q none I' J b) : w_C xs xl 216 [.ref 104, w_i f, w_i g, w_i t, w_i by'] I J b Q := by
  have w0 := wf.1
  have w2 := wf.2.2.1
  refine e216 (b216_0 ?_)
  have loop : ∀ (m n : Nat) (l5 l6 l7 : Int) (u8 : Option Value) (I1 : w_I), (n : Int) + m = s 7 → l7 = n → w_fr p216 I I1 →
      I1 104 33 = m_sum (fun p => if m_in s f g p then 1 else 0) n → I1 104 34 = m_sum (fun p => if m_in s f g p then s (100 + 6 * p + 3) else 0) n →
      l5 = m_sum (fun p => if m_in s f g p then m_pa s p t else 0) n → l6 = m_mx (fun p => if m_in s f g p then m_pa s p t else 0) n →
      0 ≤ I1 104 33 ∧ I1 104 33 ≤ n → 0 ≤ l5 ∧ l5 ≤ 199 * n → 0 ≤ l6 ∧ l6 ≤ 199 →
      w_T xs xl 216 19 [some (.ref 104), some (w_i f), some (w_i g), some (w_i t), some (w_i by'), some (w_i l5), some (w_i l6), some (w_i l7), u8] [] [] I1 J b Q := by
    intro m
    induction m with
    | zero =>
      intro n l5 l6 l7 u8 I1 hn hl hfr e1 e2 e3 e4 b1 b3 b4
      have hs1 : I1 110 = s := (w_frA hfr (fun _ => rfl)).trans hs
      have hn' : (s 7).toNat = n := by omega
      refine b216_19 ?_
      try simp only [w_Ug, reduceIte, Nat.reduceEqDiff, Int.reduceEq, eq_self, hs1]
      repeat' (first | apply And.intro | intro)
      all_goals (try first | omega | contradiction)
      · rename_i c1
        refine k _ (w_frU hfr rfl) ?_ ?_ ?_
        · simp only [w_Ug, reduceIte, m_sz, hn']; exact e1
        · simp only [w_Ug, reduceIte, m_lm, hn']; exact e2
        · simp only [w_Ug, reduceIte, m_ag, m_mo, hn', c1, true_or]; exact e4
      · rename_i c1 c2
        refine k _ (w_frU hfr rfl) ?_ ?_ ?_
        · simp only [w_Ug, reduceIte, m_sz, hn']; exact e1
        · simp only [w_Ug, reduceIte, m_lm, hn']; exact e2
        · simp only [w_Ug, reduceIte, m_ag, m_sm, m_sz, hn', ← e1, ← e3]
          rw [if_neg (by omega)]
      · rename_i c1 c2
        refine k _ (w_frU hfr rfl) ?_ ?_ ?_
        · simp only [w_Ug, reduceIte, m_sz, hn']; exact e1
        · simp only [w_Ug, reduceIte, m_lm, hn']; exact e2
        · simp only [w_Ug, reduceIte, m_ag, m_mo, m_sz, hn', ← e1]
          rw [if_pos (Or.inr c2)]; exact e4
    | succ m ih =>
      intro n l5 l6 l7 u8 I1 hn hl hfr e1 e2 e3 e4 b1 b3 b4
      have hs1 : I1 110 = s := (w_frA hfr (fun _ => rfl)).trans hs
      have w2 := w2 l7 (by omega) (by omega)
      have step : ∀ (d : Int), (m_in s f g n ∨ d = 0) → True := fun _ _ => trivial
      refine b216_19 ?_
      try simp only [w_Ug, reduceIte, Nat.reduceEqDiff, Int.reduceEq, eq_self, hs1]
      repeat' (first | apply And.intro | intro)
      all_goals (try first | omega | contradiction)
      refine s210 hs1 wf (by omega) (fun c => ?_) (fun c => ?_)
      · have pa := m_pa_b (t := t) wf (p := l7) (by omega)
        have hin : ∀ (c : s (100 + 6 * l7 + 5) = f ∨ s (100 + 6 * l7 + 5) = g) (I2 : w_I), I2 = (w_U (w_U I1 104 33 (I1 104 33 + 1)) 104 34 (I1 104 34 + s (100 + 6 * l7 + 3))) → w_C xs xl 215 [.ref 104, w_i l7, w_i t] I2 J b (fun v I J b => w_T xs xl 216 122 [some (.ref 104), some (w_i f), some (w_i g), some (w_i t), some (w_i by'), some (w_i l5), some (w_i l6), some (w_i l7), u8] [] (w_pv v []) I J b Q) := by
          intro cc I2 hI2
          have hs2 : I2 110 = s := by rw [hI2]; exact hs1
          have hm : m_in s f g n := by rw [← hl]; exact ⟨c.2.2, cc⟩
          have f1 : I2 104 33 = m_sum (fun p => if m_in s f g p then 1 else 0) (n + 1) := by
            rw [m_sum_s, if_pos hm, ← e1, hI2]; simp only [w_Ug, reduceIte]; rfl
          have f2 : I2 104 34 = m_sum (fun p => if m_in s f g p then s (100 + 6 * p + 3) else 0) (n + 1) := by
            rw [m_sum_s, if_pos hm, ← e2, hI2, ← hl]; simp only [w_Ug, reduceIte]
          have f3 : l5 + m_pa s l7 t = m_sum (fun p => if m_in s f g p then m_pa s p t else 0) (n + 1) := by
            rw [m_sum_s, if_pos hm, ← e3, hl]
          have f4 : max l6 (m_pa s l7 t) = m_mx (fun p => if m_in s f g p then m_pa s p t else 0) (n + 1) := by
            rw [m_mx_s, if_pos hm, ← e4, hl]
          have f5 : I2 104 33 = I1 104 33 + 1 := by rw [hI2]; simp only [w_Ug, reduceIte]; rfl
          have hfr2 : w_fr p216 I I2 := by rw [hI2]; exact w_frU (w_frU hfr rfl) rfl
          refine s215 hs2 wf (by omega) ht ?_
          refine b216_122 ?_
          try simp only [w_Ug, reduceIte, Nat.reduceEqDiff, Int.reduceEq, eq_self, hs2]
          repeat' (first | apply And.intro | intro)
          all_goals (try first | omega | contradiction)
          · exact ih (n + 1) _ _ _ _ _ (by omega) (by omega) hfr2 f1 f2 f3 (by rw [← f4]; omega) (by omega) (by omega) (by omega)
          · exact ih (n + 1) _ _ _ _ _ (by omega) (by omega) hfr2 f1 f2 f3 (by rw [← f4]; omega) (by omega) (by omega) (by omega)
        refine b216_37 ?_
        try simp only [w_Ug, reduceIte, Nat.reduceEqDiff, Int.reduceEq, eq_self, hs1]
        repeat' (first | apply And.intro | intro)
        all_goals (try first | omega | contradiction)
        · exact hin (by omega) _ rfl
        · exact hin (by omega) _ rfl
        · have hm : ¬ m_in s f g n := by rw [← hl]; omega
          exact ih (n + 1) _ _ _ _ _ (by omega) (by omega) hfr (by rw [m_sum_s, if_neg hm]; omega) (by rw [m_sum_s, if_neg hm]; omega) (by rw [m_sum_s, if_neg hm]; omega) (by rw [m_mx_s, if_neg hm]; omega) (by omega) (by omega) (by omega)
      · have hm : ¬ m_in s f g n := by rw [← hl]; omega
        refine b216_37 ?_
        try simp only [w_Ug, reduceIte, Nat.reduceEqDiff, Int.reduceEq, eq_self, hs1]
        repeat' (first | apply And.intro | intro)
        all_goals (try first | omega | contradiction)
        exact ih (n + 1) _ _ _ _ _ (by omega) (by omega) hfr (by rw [m_sum_s, if_neg hm]; omega) (by rw [m_sum_s, if_neg hm]; omega) (by rw [m_sum_s, if_neg hm]; omega) (by rw [m_mx_s, if_neg hm]; omega) (by omega) (by omega) (by omega)
  refine loop (s 7).toNat 0 0 0 0 none _ (by omega) rfl (w_frU (w_frU w_frr rfl) rfl) ?_ ?_ rfl rfl ?_ (by omega) (by omega)
  · simp only [w_Ug, reduceIte]; rfl
  · simp only [w_Ug, reduceIte]; rfl
  · simp only [w_Ug, reduceIte]; decide
theorem s217 (hs : I 110 = s) (wf : m_w0 s) {f : Int} (hf : w_in f)
    (k : ∀ I', w_fr p216 I I' → I' 104 33 = m_sz s f (-1) → I' 104 34 = m_lm s f (-1) → I' 104 35 = m_ag s f (-1) 0 (s 3) → Q none I' J b) : w_C xs xl 217 [.ref 104, w_i f] I J b Q := by
  have w0 := wf.1
  refine e217 (b217_0 ?_)
  rw [hs]
  refine s216 hs wf hf (by decide) (by decide) (by omega) (fun I' hfr e1 e2 e3 => ?_)
  exact b217_13 (k I' hfr e1 e2 e3)
theorem m_ag_b (wf : m_w0 s) {f g t by' : Int} : 0 ≤ m_ag s f g t by' ∧ m_ag s f g t by' ≤ 199 := by
  have w0 := wf.1
  have h1 : 0 ≤ m_mo s f g t ∧ m_mo s f g t ≤ 199 := m_mx_b (by decide) _ (fun i hi => by
    have := m_pa_b (t := t) wf (p := i) (by omega)
    show (if m_in s f g i then m_pa s i t else 0) ≤ 199
    split <;> omega)
  have h2 : 0 ≤ m_sz s f g := by
    have := (m_sum_b (lo := 0) (hi := 1) (P := fun p => if m_in s f g p then 1 else 0) (s 7).toNat (fun i hi => by
      show 0 ≤ (if m_in s f g i then (1 : Int) else 0) ∧ (if m_in s f g i then (1 : Int) else 0) ≤ 1
      split <;> omega)).1
    unfold m_sz
    omega
  have h3 : ∀ n : Nat, n ≤ (s 7).toNat → 0 ≤ m_sum (fun p => if m_in s f g p then m_pa s p t else 0) n ∧ m_sum (fun p => if m_in s f g p then m_pa s p t else 0) n ≤ 199 * m_sum (fun p => if m_in s f g p then 1 else 0) n := by
    intro n
    induction n with
    | zero => intro _; simp [m_sum]
    | succ n ih =>
      intro hn
      have := ih (by omega)
      have := m_pa_b (t := t) wf (p := n) (by omega)
      rw [m_sum_s, m_sum_s]
      by_cases hm : m_in s f g n
      · rw [if_pos hm, if_pos hm]; omega
      · rw [if_neg hm, if_neg hm]; omega
  unfold m_ag
  split
  · exact h1
  · rename_i hc
    have h4 := h3 _ (Nat.le_refl _)
    have h5 : 0 < m_sz s f g := by omega
    refine ⟨Int.ediv_nonneg h4.1 h2, ?_⟩
    have : m_sm s f g t / m_sz s f g < 200 := Int.ediv_lt_of_lt_mul h5 (by
      have := h4.2
      unfold m_sm
      show _ < 200 * m_sz s f g
      unfold m_sz at h5 ⊢
      omega)
    omega
theorem s218 (hs : I 110 = s) (wf : m_w0 s) {f : Int} (hf : w_in f)
    (k : ∀ I', w_fr p216 I I' → Q (some (w_i (m_ag s f (-1) 0 (s 3) / s 1))) I' J b) : w_C xs xl 218 [.ref 104, w_i f] I J b Q := by
  have w0 := wf.1
  refine e218 (b218_0 ?_)
  refine s217 hs wf hf (fun I' hfr e1 e2 e3 => ?_)
  have hs1 : I' 110 = s := (w_frA hfr (fun _ => rfl)).trans hs
  have hb := m_ag_b (f := f) (g := -1) (t := 0) (by' := s 3) wf
  have := k I' hfr
  rw [← e3] at this hb
  refine b218_5 ?_
  try simp only [w_Ug, reduceIte, Nat.reduceEqDiff, Int.reduceEq, eq_self, hs1]
  repeat' (first | apply And.intro | intro)
  all_goals (try first | omega | contradiction)
end
