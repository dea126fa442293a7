section
/-! the reference: the state stays sound; calls about people -/
variable {xs : Nat → Int32} {xl : Nat} {I J : w_I} {b : Bool} {Q : Option Value → w_I → w_I → Bool → Prop}
variable {s : Int → Int}
theorem m_wf_lv {g : Int} (w : m_w0 s) (hg : 0 ≤ g ∧ g < s 8) (h1 : ∀ p, m_isP s p → s (460 + 3 * s (100 + 6 * p + 5)) = 1) (h2 : ∀ f, m_isF s f → f ≠ g → 1 ≤ m_sz s f (-1) ∧ m_sz s f (-1) ≤ 6) (h4 : m_sz s g (-1) ≤ 6)
    (h3 : ∀ f g, m_isF s f → m_isF s g → 0 ≤ s (460 + 3 * f + 1) → s (460 + 3 * f + 1) = s (460 + 3 * g + 1) → f = g) : m_wf (m_lv s g) := by
  have wl := m_w0_lv w hg
  have w0 := w.1
  have w2 := w.2.2.1
  have hn := m_sz_nn s g (-1)
  unfold m_lv at wl ⊢
  split
  · rename_i hz
    rw [if_pos hz] at wl
    refine ⟨wl, ?_, ?_, ?_⟩
    · intro p hp
      simp (disch := omega) only [m_isP, u1g, if_neg] at hp
      have w2 := w2 p hp.1 hp.2.1
      have h1 := h1 p (by simp (disch := omega) only [if_neg] at hp; exact hp)
      have hz := (m_sz_z s g (-1)).mp hz p hp.1 hp.2.1
      simp (disch := omega) only [if_neg] at hp
      simp (disch := omega) only [u1g, if_neg]
      have : s (100 + 6 * p + 5) ≠ g := fun e => hz ⟨hp.2.2, Or.inl e⟩
      try rw [if_neg (by omega)]
      exact h1
    · intro f hf
      have hfg : f ≠ g := by
        intro e
        subst e
        have := hf.2.2
        rw [u1g, if_pos rfl] at this
        omega
      simp (disch := omega) only [m_isF, u1g, if_neg] at hf
      try rw [if_neg (by omega)] at hf
      rw [m_szc (s := s) (by rw [u1g, if_neg (by omega)]) (fun i h0 h1 => by
        have : i < 60 := by omega
        simp (disch := omega) only [u1g, if_neg]; exact ⟨trivial, trivial⟩)]
      exact h2 f hf hfg
    · intro f f' hf hf' e1 e2
      have hfg : f ≠ g := by
        intro e
        subst e
        have := hf.2.2
        rw [u1g, if_pos rfl] at this
        omega
      have hfg' : f' ≠ g := by
        intro e
        subst e
        have := hf'.2.2
        rw [u1g, if_pos rfl] at this
        omega
      simp (disch := omega) only [m_isF, u1g, if_neg] at hf hf' e1 e2
      exact h3 f f' hf hf' e1 e2
  · rename_i hz
    rw [if_neg hz] at wl
    refine ⟨wl, h1, fun f hf => ?_, h3⟩
    by_cases e : f = g
    · subst e; omega
    · exact h2 f hf e
theorem m_wf_die {p : Int} (wf : m_wf s) (hp : m_isP s p) : m_wf (m_die s p) := by
  have w := wf.1
  have w0 := w.1
  have w2 := w.2.2.1 p hp.1 hp.2.1
  have hp1 := hp.1
  have hp2 := hp.2.1
  have e5 : u1 s (100 + 6 * p) 0 (100 + 6 * p + 5) = s (100 + 6 * p + 5) := by rw [u1g, if_neg (by omega)]
  have e8 : u1 s (100 + 6 * p) 0 8 = s 8 := by rw [u1g, if_neg (by omega)]
  have e7 : u1 s (100 + 6 * p) 0 7 = s 7 := by rw [u1g, if_neg (by omega)]
  have hm : ∀ f g, ¬ m_in (u1 s (100 + 6 * p) 0) f g p := by
    intro f g h
    have := h.1
    rw [u1g, if_pos rfl] at this
    omega
  have hsz : ∀ f, m_sz (u1 s (100 + 6 * p) 0) f (-1) = m_sz s f (-1) - (if m_in s f (-1) p then 1 else 0) := by
    intro f
    rw [m_szU (s := s) (p := p) ⟨hp1, hp2⟩ e7 (fun i h0 h1 hne => by simp (disch := omega) only [u1g, if_neg]; exact ⟨trivial, trivial⟩), if_neg (hm f (-1))]
    omega
  refine m_wf_lv (m_w0_u0 w ⟨hp1, hp2⟩) (by rw [e8]; omega) ?_ ?_ ?_ ?_
  · intro q hq
    have hqp : q ≠ p := by
      intro e
      subst e
      have := hq.2.2
      rw [u1g, if_pos rfl] at this
      omega
    simp (disch := omega) only [m_isP, u1g, if_neg] at hq
    try rw [if_neg (by omega)] at hq
    have w2 := w.2.2.1 q hq.1 hq.2.1
    simp (disch := omega) only [u1g, if_neg]
    exact wf.2.1 q hq
  · intro f hf hne
    simp (disch := omega) only [m_isF, u1g, if_neg] at hf
    try rw [if_neg (by omega)] at hf
    rw [hsz f, if_neg (fun h => by
      have := h.2
      omega)]
    have := wf.2.2.1 f hf
    omega
  · rw [hsz]
    have := (wf.2.2.1 (s (100 + 6 * p + 5)) ⟨by omega, by omega, wf.2.1 p hp⟩).2
    split <;> omega
  · intro f g hf hg e1 e2
    simp (disch := omega) only [m_isF, u1g, if_neg] at hf hg e1 e2
    try rw [if_neg (by omega)] at hf hg e1
    try rw [if_neg (by omega)] at e2
    try rw [if_neg (by omega)] at e2
    exact wf.2.2.2 f g hf hg e1 e2
theorem m_w0_u5 (wf : m_w0 s) {p g : Int} (hp : 0 ≤ p ∧ p < s 7) (hg : 0 ≤ g ∧ g < s 8) : m_w0 (u1 s (100 + 6 * p + 5) g) := by
  obtain ⟨w0, w1, w2, w3, w4⟩ := wf
  refine ⟨?_, ?_, ?_, ?_, ?_⟩
  · simp (disch := omega) only [u1g, if_neg]; exact w0
  · simp (disch := omega) only [u1g, if_neg]
    intro h h0 h1
    have := w1 h h0 h1
    try simp (disch := omega) only [if_neg]
    exact this
  · simp (disch := omega) only [u1g, if_neg]
    intro h h0 h1
    have := w2 h h0 h1
    try simp (disch := omega) only [if_neg]
    refine ⟨this.1, this.2.1, this.2.2.1, this.2.2.2.1, this.2.2.2.2.1, ?_⟩
    split
    · omega
    · exact this.2.2.2.2.2
  · simp (disch := omega) only [u1g, if_neg]
    intro h h0 h1
    have := w3 h h0 h1
    try simp (disch := omega) only [if_neg]
    exact this
  · simp (disch := omega) only [u1g, if_neg]
    intro h h0 h1
    have := w4 h h0 h1
    try simp (disch := omega) only [if_neg]
    exact this
theorem m_wf_join {p g : Int} (wf : m_wf s) (hp : m_isP s p) (hg : m_isF s g) (hne : s (100 + 6 * p + 5) ≠ g) (h6 : m_sz s g (-1) ≠ 6) : m_wf (m_join s p g) := by
  have w := wf.1
  have w0 := w.1
  have w2 := w.2.2.1 p hp.1 hp.2.1
  have hp1 := hp.1
  have hp2 := hp.2.1
  have hp3 := hp.2.2
  have hg1 := hg.1
  have hg2 := hg.2.1
  have e8 : u1 s (100 + 6 * p + 5) g 8 = s 8 := by rw [u1g, if_neg (by omega)]
  have e7 : u1 s (100 + 6 * p + 5) g 7 = s 7 := by rw [u1g, if_neg (by omega)]
  have hm : ∀ f, m_in (u1 s (100 + 6 * p + 5) g) f (-1) p ↔ g = f := by
    intro f
    simp (disch := omega) only [m_in, u1g, if_neg, if_pos, if_true]
    omega
  have hm2 : ∀ f, m_in s f (-1) p ↔ s (100 + 6 * p + 5) = f := by
    intro f
    simp only [m_in]
    omega
  have hsz : ∀ f, m_sz (u1 s (100 + 6 * p + 5) g) f (-1) = m_sz s f (-1) - (if s (100 + 6 * p + 5) = f then 1 else 0) + (if g = f then 1 else 0) := by
    intro f
    rw [m_szU (s := s) (p := p) ⟨hp1, hp2⟩ e7 (fun i h0 h1 hne => by simp (disch := omega) only [u1g, if_neg]; exact ⟨trivial, trivial⟩)]
    simp only [hm, hm2]
  refine m_wf_lv (m_w0_u5 w ⟨hp1, hp2⟩ ⟨hg1, hg2⟩) (by rw [e8]; omega) ?_ ?_ ?_ ?_
  · intro q hq
    simp (disch := omega) only [m_isP, u1g, if_neg] at hq
    try rw [if_neg (by omega)] at hq
    have w2 := w.2.2.1 q hq.1 hq.2.1
    by_cases e : q = p
    · subst e
      simp (disch := omega) only [u1g, if_neg, if_pos, if_true]
      exact hg.2.2
    · simp (disch := omega) only [u1g, if_neg]
      exact wf.2.1 q hq
  · intro f hf hne
    simp (disch := omega) only [m_isF, u1g, if_neg] at hf
    try rw [if_neg (by omega)] at hf
    have := wf.2.2.1 f hf
    rw [hsz f, if_neg (fun h => hne h.symm)]
    split
    · rename_i e; subst e; omega
    · omega
  · rw [hsz, if_pos rfl, if_neg (fun h => hne h.symm)]
    have := (wf.2.2.1 (s (100 + 6 * p + 5)) ⟨by omega, by omega, wf.2.1 p hp⟩).2
    omega
  · intro f f' hf hf' e1 e2
    simp (disch := omega) only [m_isF, u1g, if_neg] at hf hf' e1 e2
    try rw [if_neg (by omega)] at hf hf' e1
    try rw [if_neg (by omega)] at e2
    try rw [if_neg (by omega)] at e2
    exact wf.2.2.2 f f' hf hf' e1 e2
theorem s224 (hs : I 110 = s) (wf : m_w0 s) {p : Int} (hp : m_isP s p) (k : ∀ I', w_fr pS I I' → I' 110 = m_die s p → Q none I' J b) : w_C xs xl 224 [.ref 104, w_i p] I J b Q := by
  have w0 := wf.1
  have hp1 := hp.1
  have hp2 := hp.2.1
  have w2 := wf.2.2.1 p hp.1 hp.2.1
  refine e224 ?_
  refine b224_0 ?_
  try simp only [w_Ug, reduceIte, Nat.reduceEqDiff, Int.reduceEq, eq_self, hs]
  try simp (disch := omega) only [if_neg, if_pos, if_true, if_false]
  repeat' (first | apply And.intro | intro)
  all_goals (try first | omega | contradiction)
  have e8 : u1 s (100 + 6 * p) 0 8 = s 8 := by rw [u1g, if_neg (by omega)]
  refine s222 (s := u1 s (100 + 6 * p) 0) (by rw [w_U1, hs]) (m_w0_u0 wf ⟨hp1, hp2⟩) (by rw [e8]; omega) (fun I' hfr e => ?_)
  exact b224_31 (k I' (w_frt (w_frU w_frr rfl) hfr) e)
theorem s225 (hs : I 110 = s) (wf : m_wf s) {p : Int} (hp : w_in p) (k1 : m_isP s p → ∀ I', w_fr pS I I' → I' 110 = m_die s p → Q (some (w_i 1)) I' J b) (k0 : ¬ m_isP s p → Q (some (w_i 0)) I J b) : w_C xs xl 225 [.ref 104, w_i p] I J b Q := by
  refine e225 (b225_0 ?_)
  refine s210 hs wf.1 hp (fun h => ?_) (fun h => ?_)
  · refine b225_5 ?_
    try simp only [w_Ug, reduceIte, Nat.reduceEqDiff, Int.reduceEq, eq_self, hs]
    repeat' (first | apply And.intro | intro)
    all_goals (try first | omega | contradiction)
    exact s224 hs wf.1 h (fun I' hfr e => b225_15 (k1 h I' hfr e))
  · have := k0 h
    refine b225_5 ?_
    try simp only [w_Ug, reduceIte, Nat.reduceEqDiff, Int.reduceEq, eq_self, hs]
    repeat' (first | apply And.intro | intro)
    all_goals (try first | omega | contradiction)
theorem s223 (hs : I 110 = s) (wf : m_wf s) {p g : Int} (hp : w_in p) (hg : w_in g)
    (k1 : m_isP s p → m_isF s g → s (100 + 6 * p + 5) ≠ g → m_sz s g (-1) ≠ 6 → ∀ I', w_fr pS I I' → I' 110 = m_join s p g → Q (some (w_i 1)) I' J b)
    (k0 : ¬ (m_isP s p ∧ m_isF s g ∧ s (100 + 6 * p + 5) ≠ g ∧ m_sz s g (-1) ≠ 6) → ∀ I', w_fr pS I I' → I' 110 = s → Q (some (w_i 0)) I' J b) : w_C xs xl 223 [.ref 104, w_i p, w_i g] I J b Q := by
  have w := wf.1
  have w0 := w.1
  refine e223 (b223_0 ?_)
  refine s210 hs w hp (fun h => ?_) (fun h => ?_)
  · have w2 := w.2.2.1 p h.1 h.2.1
    have h1 := h.1
    have h2 := h.2.1
    refine b223_5 ?_
    try simp only [w_Ug, reduceIte, Nat.reduceEqDiff, Int.reduceEq, eq_self, hs]
    repeat' (first | apply And.intro | intro)
    all_goals (try first | omega | contradiction)
    refine s211 hs w hg (fun h' => ?_) (fun h' => ?_)
    · have h1' := h'.1
      have h2' := h'.2.1
      have hsz := wf.2.2.1 g h'
      refine b223_13 ?_
      try simp only [w_Ug, reduceIte, Nat.reduceEqDiff, Int.reduceEq, eq_self, hs]
      repeat' (first | apply And.intro | intro)
      all_goals (try first | omega | contradiction)
      · rename_i hne
        refine s217 hs w hg (fun I' hfr e1 e2 e3 => ?_)
        have hs1 : I' 110 = s := (w_frA hfr (fun _ => rfl)).trans hs
        refine b223_41 ?_
        try simp only [w_Ug, reduceIte, Nat.reduceEqDiff, Int.reduceEq, eq_self, hs1, e1]
        repeat' (first | apply And.intro | intro)
        all_goals (try first | omega | contradiction)
        · rename_i h6
          have e8 : u1 s (100 + 6 * p + 5) g 8 = s 8 := by rw [u1g, if_neg (by omega)]
          refine s222 (s := u1 s (100 + 6 * p + 5) g) (by rw [w_U1, hs1]) (m_w0_u5 w ⟨h1, h2⟩ ⟨h1', h2'⟩) (by rw [e8]; omega) (fun I2 hfr2 e => ?_)
          exact b223_87 (k1 h h' hne h6 I2 (w_frt (w_frU (p216_S hfr) rfl) hfr2) e)
        · rename_i h6
          exact k0 (fun hh => hh.2.2.2 h6) I' (p216_S hfr) hs1
      · rename_i he
        exact k0 (fun hh => hh.2.2.1 he) I w_frr hs
    · have := k0 (fun hh => h' hh.2.1) I w_frr hs
      refine b223_13 ?_
      try simp only [w_Ug, reduceIte, Nat.reduceEqDiff, Int.reduceEq, eq_self, hs]
      repeat' (first | apply And.intro | intro)
      all_goals (try first | omega | contradiction)
  · have := k0 (fun hh => h hh.1) I w_frr hs
    refine b223_5 ?_
    try simp only [w_Ug, reduceIte, Nat.reduceEqDiff, Int.reduceEq, eq_self, hs]
    repeat' (first | apply And.intro | intro)
    all_goals (try first | omega | contradiction)
end
