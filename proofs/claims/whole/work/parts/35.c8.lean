section
/-! calls: live, love, months -/
variable {xs : Nat → Int32} {xl : Nat} {I J : w_I} {b : Bool} {Q : Option Value → w_I → w_I → Bool → Prop}
variable {s : Int → Int}
/-- the text that was told -/
def c_rt (I : w_I) (s : Int → Int) : Prop := I 2 5 = s 0 ∧ I 2 6 = s 1 ∧ I 2 7 = s 2 ∧ I 2 8 = s 4 ∧ I 2 10 = s 3 ∧ (∀ h, 0 ≤ h → h < s 0 → I 3 h = s (20 + h) ∧ I 4 h = s (50 + h))
theorem c156 (rt : c_rt I s) (w : m_w0 s) {h : Int} (hh : w_in h) (k1 : 0 ≤ h ∧ h < s 0 → Q (some (w_i 1)) I J b) (k0 : ¬ (0 ≤ h ∧ h < s 0) → Q (some (w_i 0)) I J b) : w_C xs xl 156 [.ref 0, w_i h] I J b Q := by
  have w0 := w.1
  have t5 := rt.1
  refine e156 ?_
  refine b156_0 ?_
  try simp only [w_Ug, reduceIte, Nat.reduceEqDiff, Int.reduceEq, eq_self, t5]
  repeat' (first | apply And.intro | intro)
  all_goals (try first | omega | contradiction)
  all_goals first | exact k0 (by omega) | exact k1 (by omega)
abbrev m_ml (s : Int → Int) (f h : Int) : Prop := m_isF s f ∧ (h = -1 ∨ (0 ≤ h ∧ h < s 0 ∧ m_emp s h))
def m_to (h : Int) : Int := if h < 0 then -2 else h
theorem c129 {f h : Int} (rf : c_rf 20 I s) (rt : c_rt I s) (wf : m_wf s) (hf : w_in f) (hh : w_in h)
    (k1 : m_ml s f h → ∀ I', w_fr pF I I' → c_rf 20 I' (u1 s (460 + 3 * f + 1) (m_to h)) → Q (some (w_i 1)) I' J b) (k0 : ¬ m_ml s f h → Q (some (w_i 0)) I J b) : w_C xs xl 129 [.ref 0, w_i f, w_i h] I J b Q := by
  have w0 := wf.1.1
  refine e129 (b129_0 ?_)
  refine c6 rf wf hf (fun h1 => ?_) (fun h1 => ?_)
  · by_cases e : h = -1
    · subst e
      have km := k1 ⟨h1, Or.inl rfl⟩
      refine b129_8 ?_
      try simp only [w_Ug, reduceIte, Nat.reduceEqDiff, Int.reduceEq, eq_self, if_true]
      repeat' (first | apply And.intro | intro)
      all_goals (try first | omega | contradiction)
      exact c15 rf wf h1 (fun I' f r => b129_26 (km I' f r))
    · refine b129_8 ?_
      try simp only [w_Ug, reduceIte, Nat.reduceEqDiff, Int.reduceEq, eq_self, if_true]
      repeat' (first | apply And.intro | intro)
      all_goals (try first | omega | contradiction)
      refine c156 rt wf.1 hh (fun h2 => ?_) (fun h2 => ?_)
      · have ce := c_emp rf (h := h) (by omega)
        have hr : w_in (I 30 h) := by
          simp only [c_rf, Nat.reduceAdd] at rf
          obtain ⟨e13', e14', e15', e16', rp, rff, rh, rm⟩ := rf
          have := rh h (by omega) (by omega)
          by_cases x : I 30 h = -1
          · omega
          · have := (this.2 x).1
            omega
        refine b129_33 ?_
        try simp only [w_Ug, reduceIte, Nat.reduceEqDiff, Int.reduceEq, eq_self, if_true]
        repeat' (first | apply And.intro | intro)
        all_goals (try first | omega | contradiction)
        · rename_i x
          have km := k1 ⟨h1, Or.inr ⟨h2.1, h2.2, ce.mp x⟩⟩
          have et : m_to h = h := by unfold m_to; rw [if_neg (by omega)]
          rw [et] at km
          exact c16 rf wf h1 ⟨h2.1, h2.2, ce.mp x⟩ (fun I' f r => b129_60 (km I' f r))
        · rename_i x
          exact k0 (fun y => y.2.elim e (fun z => x (ce.mpr z.2.2)))
      · have := k0 (fun y => y.2.elim e (fun z => h2 ⟨z.1, z.2.1⟩))
        refine b129_33 ?_
        try simp only [w_Ug, reduceIte, Nat.reduceEqDiff, Int.reduceEq, eq_self, if_true]
        repeat' (first | apply And.intro | intro)
        all_goals (try first | omega | contradiction)
  · have := k0 (fun y => h1 y.1)
    refine b129_8 ?_
    try simp only [w_Ug, reduceIte, Nat.reduceEqDiff, Int.reduceEq, eq_self, if_true]
    repeat' (first | apply And.intro | intro)
    all_goals (try first | omega | contradiction)
theorem s228 {f h : Int} (hs : I 110 = s) (wf : m_wf s) (hf : w_in f) (hh : w_in h)
    (k1 : m_ml s f h → ∀ I', w_fr p110 I I' → I' 110 = u1 s (460 + 3 * f + 1) (m_to h) → Q (some (w_i 1)) I' J b) (k0 : ¬ m_ml s f h → Q (some (w_i 0)) I J b) : w_C xs xl 228 [.ref 104, w_i f, w_i h] I J b Q := by
  have w0 := wf.1.1
  refine e228 (b228_0 ?_)
  refine s211 hs wf.1 hf (fun h1 => ?_) (fun h1 => ?_)
  · have hf1 := h1.1
    have hf2 := h1.2.1
    by_cases e : h = -1
    · subst e
      have km := k1 ⟨h1, Or.inl rfl⟩
      refine b228_5 ?_
      try simp only [w_Ug, reduceIte, Nat.reduceEqDiff, Int.reduceEq, eq_self, hs]
      repeat' (first | apply And.intro | intro)
      all_goals (try first | omega | contradiction)
      exact km _ (w_frU w_frr rfl) (by rw [w_U1, hs]; rfl)
    · refine b228_5 ?_
      try simp only [w_Ug, reduceIte, Nat.reduceEqDiff, Int.reduceEq, eq_self, hs]
      repeat' (first | apply And.intro | intro)
      all_goals (try first | omega | contradiction)
      refine s212 hs wf.1 hh (fun h2 => ?_) (fun h2 => ?_)
      · refine b228_18 ?_
        try simp only [w_Ug, reduceIte, Nat.reduceEqDiff, Int.reduceEq, eq_self, hs]
        repeat' (first | apply And.intro | intro)
        all_goals (try first | omega | contradiction)
        have et : m_to h = h := by unfold m_to; rw [if_neg (by omega)]
        refine s214 hs wf.1 hh (fun g hg eg => ?_) (fun em => ?_)
        · have := k0 (fun y => y.2.elim e (fun z => z.2.2 g hg eg))
          have hg1 := hg.1
          have hg2 := hg.2.1
          refine b228_26 ?_
          try simp only [w_Ug, reduceIte, Nat.reduceEqDiff, Int.reduceEq, eq_self, hs]
          repeat' (first | apply And.intro | intro)
          all_goals (try first | omega | contradiction)
        · have km := k1 ⟨h1, Or.inr ⟨h2.1, h2.2, em⟩⟩
          rw [et] at km
          refine b228_26 ?_
          try simp only [w_Ug, reduceIte, Nat.reduceEqDiff, Int.reduceEq, eq_self, hs]
          repeat' (first | apply And.intro | intro)
          all_goals (try first | omega | contradiction)
          exact km _ (w_frU w_frr rfl) (by rw [w_U1, hs])
      · have := k0 (fun y => y.2.elim e (fun z => h2 ⟨z.1, z.2.1⟩))
        refine b228_18 ?_
        try simp only [w_Ug, reduceIte, Nat.reduceEqDiff, Int.reduceEq, eq_self, hs]
        repeat' (first | apply And.intro | intro)
        all_goals (try first | omega | contradiction)
  · have := k0 (fun y => h1 y.1)
    refine b228_5 ?_
    try simp only [w_Ug, reduceIte, Nat.reduceEqDiff, Int.reduceEq, eq_self, hs]
    repeat' (first | apply And.intro | intro)
    all_goals (try first | omega | contradiction)
abbrev m_mv (s : Int → Int) (f h : Int) : Prop := m_isF s f ∧ (h = -1 ∨ (0 ≤ h ∧ h < s 0))
theorem m_wf_love {f h : Int} (wf : m_wf s) (hf : m_isF s f) (hh : h = -2 ∨ (0 ≤ h ∧ h < s 0)) : m_wf (u1 s (460 + 3 * f + 2) h) := by
  obtain ⟨w0, w1, w2, w3, w4⟩ := wf.1
  have hf1 := hf.1
  have hf2 := hf.2.1
  have r : ∀ k, k ≠ 460 + 3 * f + 2 → u1 s (460 + 3 * f + 2) h k = s k := fun k hk => by rw [u1g, if_neg hk]
  have rf1 : u1 s (460 + 3 * f + 2) h (460 + 3 * f + 2) = h := by rw [u1g, if_pos rfl]
  have dz : ∀ g, m_sz (u1 s (460 + 3 * f + 2) h) g (-1) = m_sz s g (-1) := fun g => m_szc (s := s) (by rw [u1g, if_neg (by omega)]) (fun i h0 h1 => by simp (disch := omega) only [u1g, if_neg]; exact ⟨trivial, trivial⟩) g (-1)
  generalize u1 s (460 + 3 * f + 2) h = D at r rf1 dz ⊢
  have ii : ∀ g, m_isF D g → m_isF s g := by
    intro g hg
    have h1 := hg.1
    have h2 := hg.2.1
    have h3 := hg.2.2
    rw [r _ (by omega)] at h2
    rw [r _ (by omega)] at h3
    exact ⟨h1, h2, h3⟩
  refine ⟨⟨?_, ?_, ?_, ?_, ?_⟩, ?_, ?_, ?_⟩
  · rw [r 0 (by omega), r 1 (by omega), r 2 (by omega), r 3 (by omega), r 4 (by omega), r 7 (by omega), r 8 (by omega), r 9 (by omega), r 10 (by omega)]
    exact w0
  · intro k h0 h1
    rw [r 0 (by omega)] at h1
    rw [r _ (by omega), r _ (by omega)]
    exact w1 k h0 h1
  · intro k h0 h1
    rw [r 7 (by omega)] at h1
    rw [r (100 + 6 * k) (by omega), r (100 + 6 * k + 1) (by omega), r (100 + 6 * k + 2) (by omega), r (100 + 6 * k + 3) (by omega), r (100 + 6 * k + 4) (by omega), r (100 + 6 * k + 5) (by omega), r 8 (by omega), r 9 (by omega)]
    exact w2 k h0 h1
  · intro k h0 h1
    rw [r 8 (by omega)] at h1
    rw [r (460 + 3 * k) (by omega), r (460 + 3 * k + 1) (by omega), r 0 (by omega)]
    have := w3 k h0 h1
    by_cases e : k = f
    · subst e; rw [rf1]; omega
    · rw [r _ (by omega)]; exact this
  · intro k h0 h1
    rw [r 10 (by omega)] at h1
    rw [r (550 + 3 * k) (by omega), r (550 + 3 * k + 1) (by omega), r (550 + 3 * k + 2) (by omega), r 8 (by omega), r 0 (by omega)]
    exact w4 k h0 h1
  · intro p hp
    have h1 := hp.1
    have h2 := hp.2.1
    have h3 := hp.2.2
    rw [r _ (by omega)] at h2
    rw [r _ (by omega)] at h3
    have wp := w2 p h1 h2
    rw [r (100 + 6 * p + 5) (by omega), r _ (by omega)]
    exact wf.2.1 p ⟨h1, h2, h3⟩
  · intro g hg
    rw [dz]
    exact wf.2.2.1 g (ii g hg)
  · intro g g' hg hg' e1 e2
    rw [r _ (by omega)] at e1
    rw [r _ (by omega), r _ (by omega)] at e2
    exact wf.2.2.2 g g' (ii g hg) (ii g' hg') e1 e2
theorem c_rf_love {f h : Int} (rf : c_rf 20 I s) (w : m_w0 s) (hf : m_isF s f) (hh : h = -1 ∨ (0 ≤ h ∧ h < s 0)) : c_rf 20 (w_U I 29 f h) (u1 s (460 + 3 * f + 2) (m_to h)) := by
  obtain ⟨w0, w1, w2, w3, w4⟩ := w
  have hf1 := hf.1
  have hf2 := hf.2.1
  have et : (h = -1 → m_to h = -2) ∧ (0 ≤ h → m_to h = h) := by
    unfold m_to
    exact ⟨fun x => if_pos (by omega), fun x => if_neg (by omega)⟩
  have r : ∀ k, k ≠ 460 + 3 * f + 2 → u1 s (460 + 3 * f + 2) (m_to h) k = s k := fun k hk => by rw [u1g, if_neg hk]
  have rf1 : u1 s (460 + 3 * f + 2) (m_to h) (460 + 3 * f + 2) = m_to h := by rw [u1g, if_pos rfl]
  have dz : ∀ g, m_sz (u1 s (460 + 3 * f + 2) (m_to h)) g (-1) = m_sz s g (-1) := fun g => m_szc (s := s) (by rw [u1g, if_neg (by omega)]) (fun i h0 h1 => by simp (disch := omega) only [u1g, if_neg]; exact ⟨trivial, trivial⟩) g (-1)
  have dl : ∀ g, m_lm (u1 s (460 + 3 * f + 2) (m_to h)) g (-1) = m_lm s g (-1) := fun g => m_lmc (s := s) (by rw [u1g, if_neg (by omega)]) (fun i h0 h1 => by simp (disch := omega) only [u1g, if_neg]; exact ⟨trivial, trivial, trivial⟩) g (-1)
  generalize u1 s (460 + 3 * f + 2) (m_to h) = D at r rf1 dz dl ⊢
  simp only [c_rf, Nat.reduceAdd] at rf
  obtain ⟨e13, e14, e15, e16, rp, rff, rh, rm⟩ := rf
  simp only [c_rf, Nat.reduceAdd]
  rw [r 7 (by omega), r 8 (by omega), r 9 (by omega), r 10 (by omega)]
  refine ⟨e13, e14, e15, e16, ?_, ?_, ?_, ?_⟩
  · intro q h0 h1
    rw [r (100 + 6 * q) (by omega), r (100 + 6 * q + 1) (by omega), r (100 + 6 * q + 2) (by omega), r (100 + 6 * q + 3) (by omega), r (100 + 6 * q + 4) (by omega), r (100 + 6 * q + 5) (by omega)]
    exact rp q h0 h1
  · intro g h0 h1
    have rg := rff g h0 h1
    rw [dz, dl, r (460 + 3 * g) (by omega), r (460 + 3 * g + 1) (by omega)]
    refine ⟨rg.1, rg.2.1, rg.2.2.1, rg.2.2.2.1, rg.2.2.2.2.1, ?_⟩
    rw [w_Ug, if_pos rfl]
    by_cases e : g = f
    · subst e
      rw [rf1, if_pos rfl]
      omega
    · rw [r (460 + 3 * g + 2) (by omega), if_neg e]
      exact rg.2.2.2.2.2
  · intro h' h0 h1
    have rh' := rh h' h0 h1
    refine ⟨fun x g hg => ?_, fun x => ?_⟩
    · have g1 := hg.1
      have g2 := hg.2.1
      have g3 := hg.2.2
      rw [r _ (by omega)] at g2
      rw [r _ (by omega)] at g3
      rw [r _ (by omega)]
      exact rh'.1 x g ⟨g1, g2, g3⟩
    · obtain ⟨q1, q2⟩ := rh'.2 x
      refine ⟨⟨q1.1, by rw [r _ (by omega)]; exact q1.2.1, ?_⟩, ?_⟩
      · rw [r _ (by omega)]; exact q1.2.2
      · rw [r _ (by omega)]; exact q2
  · intro m h0 h1
    rw [r (550 + 3 * m) (by omega), r (550 + 3 * m + 1) (by omega), r (550 + 3 * m + 2) (by omega)]
    exact rm m h0 h1
theorem c130 {f h : Int} (rf : c_rf 20 I s) (rt : c_rt I s) (wf : m_wf s) (hf : w_in f) (hh : w_in h)
    (k1 : m_mv s f h → ∀ I', w_fr pF I I' → c_rf 20 I' (u1 s (460 + 3 * f + 2) (m_to h)) → Q (some (w_i 1)) I' J b) (k0 : ¬ m_mv s f h → Q (some (w_i 0)) I J b) : w_C xs xl 130 [.ref 0, w_i f, w_i h] I J b Q := by
  have w0 := wf.1.1
  refine e130 (b130_0 ?_)
  refine c6 rf wf hf (fun h1 => ?_) (fun h1 => ?_)
  · have hf1 := h1.1
    have hf2 := h1.2.1
    by_cases e : h = -1
    · subst e
      have km := k1 ⟨h1, Or.inl rfl⟩
      refine b130_8 ?_
      try simp only [w_Ug, reduceIte, Nat.reduceEqDiff, Int.reduceEq, eq_self, if_true]
      repeat' (first | apply And.intro | intro)
      all_goals (try first | omega | contradiction)
      exact km _ (w_frU w_frr rfl) (c_rf_love rf wf.1 h1 (Or.inl rfl))
    · refine b130_8 ?_
      try simp only [w_Ug, reduceIte, Nat.reduceEqDiff, Int.reduceEq, eq_self, if_true]
      repeat' (first | apply And.intro | intro)
      all_goals (try first | omega | contradiction)
      refine c156 rt wf.1 hh (fun h2 => ?_) (fun h2 => ?_)
      · have km := k1 ⟨h1, Or.inr h2⟩
        refine b130_21 ?_
        try simp only [w_Ug, reduceIte, Nat.reduceEqDiff, Int.reduceEq, eq_self, if_true]
        repeat' (first | apply And.intro | intro)
        all_goals (try first | omega | contradiction)
        exact km _ (w_frU w_frr rfl) (c_rf_love rf wf.1 h1 (Or.inr h2))
      · have := k0 (fun y => y.2.elim e (fun z => h2 z))
        refine b130_21 ?_
        try simp only [w_Ug, reduceIte, Nat.reduceEqDiff, Int.reduceEq, eq_self, if_true]
        repeat' (first | apply And.intro | intro)
        all_goals (try first | omega | contradiction)
  · have := k0 (fun y => h1 y.1)
    refine b130_8 ?_
    try simp only [w_Ug, reduceIte, Nat.reduceEqDiff, Int.reduceEq, eq_self, if_true]
    repeat' (first | apply And.intro | intro)
    all_goals (try first | omega | contradiction)
theorem s229 {f h : Int} (hs : I 110 = s) (wf : m_wf s) (hf : w_in f) (hh : w_in h)
    (k1 : m_mv s f h → ∀ I', w_fr p110 I I' → I' 110 = u1 s (460 + 3 * f + 2) (m_to h) → Q (some (w_i 1)) I' J b) (k0 : ¬ m_mv s f h → Q (some (w_i 0)) I J b) : w_C xs xl 229 [.ref 104, w_i f, w_i h] I J b Q := by
  have w0 := wf.1.1
  refine e229 (b229_0 ?_)
  refine s211 hs wf.1 hf (fun h1 => ?_) (fun h1 => ?_)
  · have hf1 := h1.1
    have hf2 := h1.2.1
    by_cases e : h = -1
    · subst e
      have km := k1 ⟨h1, Or.inl rfl⟩
      refine b229_5 ?_
      try simp only [w_Ug, reduceIte, Nat.reduceEqDiff, Int.reduceEq, eq_self, hs]
      repeat' (first | apply And.intro | intro)
      all_goals (try first | omega | contradiction)
      exact km _ (w_frU w_frr rfl) (by rw [w_U1, hs]; rfl)
    · refine b229_5 ?_
      try simp only [w_Ug, reduceIte, Nat.reduceEqDiff, Int.reduceEq, eq_self, hs]
      repeat' (first | apply And.intro | intro)
      all_goals (try first | omega | contradiction)
      refine s212 hs wf.1 hh (fun h2 => ?_) (fun h2 => ?_)
      · have km := k1 ⟨h1, Or.inr h2⟩
        have et : m_to h = h := by unfold m_to; rw [if_neg (by omega)]
        rw [et] at km
        refine b229_18 ?_
        try simp only [w_Ug, reduceIte, Nat.reduceEqDiff, Int.reduceEq, eq_self, hs]
        repeat' (first | apply And.intro | intro)
        all_goals (try first | omega | contradiction)
        exact km _ (w_frU w_frr rfl) (by rw [w_U1, hs])
      · have := k0 (fun y => y.2.elim e (fun z => h2 z))
        refine b229_18 ?_
        try simp only [w_Ug, reduceIte, Nat.reduceEqDiff, Int.reduceEq, eq_self, hs]
        repeat' (first | apply And.intro | intro)
        all_goals (try first | omega | contradiction)
  · have := k0 (fun y => h1 y.1)
    refine b229_5 ?_
    try simp only [w_Ug, reduceIte, Nat.reduceEqDiff, Int.reduceEq, eq_self, hs]
    repeat' (first | apply And.intro | intro)
    all_goals (try first | omega | contradiction)
end
