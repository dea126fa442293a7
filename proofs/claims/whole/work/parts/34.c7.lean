section
/-! calls: live, love, months -/
variable {xs : Nat → Int32} {xl : Nat} {I J : w_I} {b : Bool} {Q : Option Value → w_I → w_I → Bool → Prop}
variable {s : Int → Int}
abbrev m_emp (s : Int → Int) (h : Int) : Prop := ∀ f, m_isF s f → s (460 + 3 * f + 1) ≠ h
theorem m_wf_home {f h : Int} (wf : m_wf s) (hf : m_isF s f) (hh : h = -2 ∨ (0 ≤ h ∧ h < s 0 ∧ m_emp s h)) : m_wf (u1 s (460 + 3 * f + 1) h) := by
  obtain ⟨w0, w1, w2, w3, w4⟩ := wf.1
  have hf1 := hf.1
  have hf2 := hf.2.1
  have hh' : h = -2 ∨ (0 ≤ h ∧ h < s 0) := hh.elim Or.inl (fun x => Or.inr ⟨x.1, x.2.1⟩)
  have ii : ∀ g, m_isF (u1 s (460 + 3 * f + 1) h) g → m_isF s g := by
    intro g hg
    have h1 := hg.1
    have h2 := hg.2.1
    have h3 := hg.2.2
    rw [u1g, if_neg (by omega)] at h2 h3
    exact ⟨h1, h2, h3⟩
  refine ⟨⟨?_, ?_, ?_, ?_, ?_⟩, ?_, ?_, ?_⟩
  · simp (disch := omega) only [u1g, if_neg]; exact w0
  · simp (disch := omega) only [u1g, if_neg]
    intro k h0 h1
    have := w1 k h0 h1
    try simp (disch := omega) only [if_neg]
    exact this
  · simp (disch := omega) only [u1g, if_neg]
    intro k h0 h1
    have := w2 k h0 h1
    try simp (disch := omega) only [if_neg]
    exact this
  · simp (disch := omega) only [u1g, if_neg]
    intro k h0 h1
    have := w3 k h0 h1
    try simp (disch := omega) only [if_neg]
    refine ⟨this.1, ?_, this.2.2⟩
    split <;> omega
  · simp (disch := omega) only [u1g, if_neg]
    intro k h0 h1
    have := w4 k h0 h1
    try simp (disch := omega) only [if_neg]
    exact this
  · intro p hp
    have h1 := hp.1
    have h2 := hp.2.1
    have h3 := hp.2.2
    rw [u1g, if_neg (by omega)] at h2 h3
    have wp := w2 p h1 h2
    simp (disch := omega) only [u1g, if_neg]
    exact wf.2.1 p ⟨h1, h2, h3⟩
  · intro g hg
    rw [m_szc (s := s) (by rw [u1g, if_neg (by omega)]) (fun i h0 h1 => by simp (disch := omega) only [u1g, if_neg]; exact ⟨trivial, trivial⟩)]
    exact wf.2.2.1 g (ii g hg)
  · intro g g' hg hg' e1 e2
    have jg := ii g hg
    have jg' := ii g' hg'
    have a1 := jg.1
    have a2 := jg'.1
    by_cases eg : g = f
    · by_cases eg' : g' = f
      · omega
      · subst eg
        rw [u1g, if_pos rfl] at e1 e2
        rw [u1g, if_neg (by omega)] at e2
        rcases hh with x | x
        · omega
        · exact absurd e2.symm (x.2.2 g' jg')
    · by_cases eg' : g' = f
      · subst eg'
        rw [u1g, if_neg (by omega)] at e1 e2
        rw [u1g, if_pos rfl] at e2
        rcases hh with x | x
        · omega
        · exact absurd e2 (x.2.2 g jg)
      · rw [u1g, if_neg (by omega)] at e1 e2
        rw [u1g, if_neg (by omega)] at e2
        exact wf.2.2.2 g g' jg jg' e1 e2
theorem c_rf_home {f h : Int} {I' : w_I} (rf : c_rf 20 I s) (wf : m_wf s) (hf : m_isF s f) (hh : h = -2 ∨ (0 ≤ h ∧ h < s 0 ∧ m_emp s h))
    (hfr : ∀ a, a ≠ 28 → a ≠ 30 → I' a = I a)
    (h28 : ∀ g, (g = f → h = -2 → I' 28 g = -1) ∧ (g = f → h ≠ -2 → I' 28 g = h) ∧ (g ≠ f → I' 28 g = I 28 g))
    (h30 : ∀ h', 0 ≤ h' → (h' = h → I' 30 h' = f) ∧ (h' ≠ h → h' = s (460 + 3 * f + 1) → I' 30 h' = -1) ∧ (h' ≠ h → h' ≠ s (460 + 3 * f + 1) → I' 30 h' = I 30 h')) : c_rf 20 I' (u1 s (460 + 3 * f + 1) h) := by
  obtain ⟨w0, w1, w2, w3, w4⟩ := wf.1
  have hf1 := hf.1
  have hf2 := hf.2.1
  have hf3 := hf.2.2
  have r : ∀ k, k ≠ 460 + 3 * f + 1 → u1 s (460 + 3 * f + 1) h k = s k := fun k hk => by rw [u1g, if_neg hk]
  have rf1 : u1 s (460 + 3 * f + 1) h (460 + 3 * f + 1) = h := by rw [u1g, if_pos rfl]
  have hh' : h = -2 ∨ (0 ≤ h ∧ h < s 0) := hh.elim Or.inl (fun x => Or.inr ⟨x.1, x.2.1⟩)
  have dz : ∀ g, m_sz (u1 s (460 + 3 * f + 1) h) g (-1) = m_sz s g (-1) := fun g => m_szc (s := s) (by rw [u1g, if_neg (by omega)]) (fun i h0 h1 => by simp (disch := omega) only [u1g, if_neg]; exact ⟨trivial, trivial⟩) g (-1)
  have dl : ∀ g, m_lm (u1 s (460 + 3 * f + 1) h) g (-1) = m_lm s g (-1) := fun g => m_lmc (s := s) (by rw [u1g, if_neg (by omega)]) (fun i h0 h1 => by simp (disch := omega) only [u1g, if_neg]; exact ⟨trivial, trivial, trivial⟩) g (-1)
  generalize u1 s (460 + 3 * f + 1) h = D at r rf1 dz dl ⊢
  simp only [c_rf, Nat.reduceAdd] at rf
  obtain ⟨e13, e14, e15, e16, rp, rff, rh, rm⟩ := rf
  simp only [c_rf, Nat.reduceAdd]
  rw [hfr 20 (by decide) (by decide), hfr 21 (by decide) (by decide), hfr 22 (by decide) (by decide), hfr 23 (by decide) (by decide), hfr 24 (by decide) (by decide), hfr 25 (by decide) (by decide), hfr 26 (by decide) (by decide), hfr 27 (by decide) (by decide), hfr 29 (by decide) (by decide), hfr 31 (by decide) (by decide), hfr 32 (by decide) (by decide), hfr 33 (by decide) (by decide)]
  rw [r 7 (by omega), r 8 (by omega), r 9 (by omega), r 10 (by omega)]
  refine ⟨e13, e14, e15, e16, ?_, ?_, ?_, ?_⟩
  · intro q h0 h1
    rw [r (100 + 6 * q) (by omega), r (100 + 6 * q + 1) (by omega), r (100 + 6 * q + 2) (by omega), r (100 + 6 * q + 3) (by omega), r (100 + 6 * q + 4) (by omega), r (100 + 6 * q + 5) (by omega)]
    exact rp q h0 h1
  · intro g h0 h1
    have rg := rff g h0 h1
    have h28 := h28 g
    rw [dz, dl, r (460 + 3 * g) (by omega), r (460 + 3 * g + 2) (by omega)]
    refine ⟨rg.1, rg.2.1, ?_⟩
    by_cases e : g = f
    · subst e
      rw [rf1]
      omega
    · rw [r (460 + 3 * g + 1) (by omega), h28.2.2 e]
      exact rg.2.2
  · intro h' h0 h1
    have rh' := rh h' h0 h1
    have h30 := h30 h' h0
    have ii : ∀ g, m_isF D g → m_isF s g := by
      intro g hg
      have h1 := hg.1
      have h2 := hg.2.1
      have h3 := hg.2.2
      rw [r _ (by omega)] at h2
      rw [r _ (by omega)] at h3
      exact ⟨h1, h2, h3⟩
    have jj : ∀ g, m_isF s g → m_isF D g := by
      intro g hg
      have h1 := hg.1
      exact ⟨hg.1, by rw [r _ (by omega)]; exact hg.2.1, by rw [r _ (by omega)]; exact hg.2.2⟩
    by_cases e : h' = h
    · rw [h30.1 e]
      exact ⟨fun x => by omega, fun _ => ⟨jj f hf, by rw [rf1]; exact e.symm⟩⟩
    · by_cases e2 : h' = s (460 + 3 * f + 1)
      · rw [h30.2.1 e e2]
        refine ⟨fun _ g hg => ?_, fun x => absurd rfl x⟩
        have jg := ii g hg
        by_cases eg : g = f
        · subst eg; rw [rf1]; exact fun x => e x.symm
        · rw [r _ (by omega)]
          intro x
          exact eg (wf.2.2.2 g f jg hf (by omega) (by omega))
      · rw [h30.2.2 e e2]
        refine ⟨fun x g hg => ?_, fun x => ?_⟩
        · have jg := ii g hg
          by_cases eg : g = f
          · subst eg; rw [rf1]; exact fun x => e x.symm
          · rw [r _ (by omega)]
            exact rh'.1 x g jg
        · obtain ⟨q1, q2⟩ := rh'.2 x
          refine ⟨jj _ q1, ?_⟩
          have : I 30 h' ≠ f := fun y => by rw [y] at q2; exact e2 q2.symm
          rw [r _ (by omega)]
          exact q2
  · intro m h0 h1
    rw [r (550 + 3 * m) (by omega), r (550 + 3 * m + 1) (by omega), r (550 + 3 * m + 2) (by omega)]
    exact rm m h0 h1
/-- what the class's home cell says -/
theorem c_home (rf : c_rf 20 I s) (wf : m_wf s) {f : Int} (hf : m_isF s f) : (s (460 + 3 * f + 1) = -2 ∧ I 28 f = -1) ∨ (0 ≤ s (460 + 3 * f + 1) ∧ s (460 + 3 * f + 1) < s 0 ∧ I 28 f = s (460 + 3 * f + 1)) := by
  simp only [c_rf, Nat.reduceAdd] at rf
  obtain ⟨e13, e14, e15, e16, rp, rff, rh, rm⟩ := rf
  have := rff f hf.1 hf.2.1
  have := wf.1.2.2.2.1 f hf.1 hf.2.1
  have := hf.2.2
  omega
/-- nobody lives there -/
theorem c_emp (rf : c_rf 20 I s) {h : Int} (hh : 0 ≤ h ∧ h < 24) : I 30 h = -1 ↔ m_emp s h := by
  simp only [c_rf, Nat.reduceAdd] at rf
  obtain ⟨e13, e14, e15, e16, rp, rff, rh, rm⟩ := rf
  have := rh h hh.1 hh.2
  constructor
  · intro e; exact this.1 e
  · intro e
    apply Decidable.byContradiction
    intro hc
    obtain ⟨q1, q2⟩ := this.2 hc
    exact e _ q1 q2
theorem c15 {f : Int} (rf : c_rf 20 I s) (wf : m_wf s) (hf : m_isF s f) (k : ∀ I', w_fr pF I I' → c_rf 20 I' (u1 s (460 + 3 * f + 1) (-2)) → Q none I' J b) : w_C xs xl 15 [.ref 20, w_i f] I J b Q := by
  have w0 := wf.1.1
  have ch := c_home rf wf hf
  have hf1 := hf.1
  have hf2 := hf.2.1
  refine e15 ?_
  refine b15_0 ?_
  try simp only [w_Ug, reduceIte, Nat.reduceEqDiff, Int.reduceEq, eq_self, if_true]
  repeat' (first | apply And.intro | intro)
  all_goals (try first | omega | contradiction)
  · rename_i e
    refine k I w_frr (c_rf_home rf wf hf (Or.inl rfl) (fun _ _ _ => rfl) ?_ ?_)
    · intro g
      exact ⟨fun x _ => by rw [x]; exact e, fun _ x => absurd rfl x, fun _ => rfl⟩
    · intro h' hp
      exact ⟨fun x => by omega, fun x y => by omega, fun _ _ => rfl⟩
  · rename_i e
    have e28 : I 28 f = s (460 + 3 * f + 1) := by omega
    refine k _ (w_frU (w_frU w_frr rfl) rfl) (c_rf_home rf wf hf (Or.inl rfl) ?_ ?_ ?_)
    · intro a a1 a2
      rw [w_Ua a1, w_Ua a2]
    · intro g
      simp only [w_Ug, reduceIte, Nat.reduceEqDiff]
      exact ⟨fun x _ => if_pos x, fun _ x => absurd rfl x, fun x => if_neg x⟩
    · intro h' hp
      simp only [w_Ug, reduceIte, Nat.reduceEqDiff, e28]
      exact ⟨fun x => by omega, fun _ x => if_pos x, fun _ x => if_neg x⟩
theorem c16 {f h : Int} (rf : c_rf 20 I s) (wf : m_wf s) (hf : m_isF s f) (hh : 0 ≤ h ∧ h < s 0 ∧ m_emp s h) (k : ∀ I', w_fr pF I I' → c_rf 20 I' (u1 s (460 + 3 * f + 1) h) → Q none I' J b) : w_C xs xl 16 [.ref 20, w_i f, w_i h] I J b Q := by
  have w0 := wf.1.1
  have ch := c_home rf wf hf
  have hf1 := hf.1
  have hf2 := hf.2.1
  have hh1 := hh.1
  have hh2 := hh.2.1
  have hne : s (460 + 3 * f + 1) ≠ h := hh.2.2 f hf
  refine e16 (b16_0 ?_)
  refine e15 ?_
  refine b15_0 ?_
  try simp only [w_Ug, reduceIte, Nat.reduceEqDiff, Int.reduceEq, eq_self, if_true]
  repeat' (first | apply And.intro | intro)
  all_goals (try first | omega | contradiction)
  · rename_i e
    refine b16_5 ?_
    try simp only [w_Ug, reduceIte, Nat.reduceEqDiff, Int.reduceEq, eq_self, if_true]
    repeat' (first | apply And.intro | intro)
    all_goals (try first | omega | contradiction)
    refine k _ (w_frU (w_frU w_frr rfl) rfl) (c_rf_home rf wf hf (Or.inr hh) ?_ ?_ ?_)
    · intro a a1 a2
      rw [w_Ua a2, w_Ua a1]
    · intro g
      simp only [w_Ug, reduceIte, Nat.reduceEqDiff]
      exact ⟨fun x y => by omega, fun x _ => if_pos x, fun x => if_neg x⟩
    · intro h' hp
      simp only [w_Ug, reduceIte, Nat.reduceEqDiff]
      exact ⟨fun x => if_pos x, fun x y => by omega, fun x _ => if_neg x⟩
  · rename_i e
    have e28 : I 28 f = s (460 + 3 * f + 1) := by omega
    refine b16_5 ?_
    try simp only [w_Ug, reduceIte, Nat.reduceEqDiff, Int.reduceEq, eq_self, if_true]
    repeat' (first | apply And.intro | intro)
    all_goals (try first | omega | contradiction)
    refine k _ (w_frU (w_frU (w_frU (w_frU w_frr rfl) rfl) rfl) rfl) (c_rf_home rf wf hf (Or.inr hh) ?_ ?_ ?_)
    · intro a a1 a2
      rw [w_Ua a2, w_Ua a1, w_Ua a1, w_Ua a2]
    · intro g
      simp only [w_Ug, reduceIte, Nat.reduceEqDiff]
      exact ⟨fun x y => by omega, fun x _ => if_pos x, fun x => by rw [if_neg x, if_neg x]⟩
    · intro h' hp
      simp only [w_Ug, reduceIte, Nat.reduceEqDiff, e28]
      exact ⟨fun x => if_pos x, fun x y => by rw [if_neg x, if_pos y], fun x y => by rw [if_neg x, if_neg y]⟩
end
