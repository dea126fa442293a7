section
/-! two families as one: the state; the class -/
variable {xs : Nat → Int32} {xl : Nat} {I J : w_I} {b : Bool} {Q : Option Value → w_I → w_I → Bool → Prop}
variable {s : Int → Int}
theorem m_join_cell {p f k : Int} (wf : m_wf s) (hp : m_isP s p) (hf : m_isF s f) (hne : s (100 + 6 * p + 5) ≠ f) (h1 : k ≠ 100 + 6 * p + 5) (h2 : k ≠ 460 + 3 * s (100 + 6 * p + 5)) : m_join s p f k = s k := by
  have w0 := wf.1.1
  have hp1 := hp.1
  by_cases h3 : k = 100 + 6 * p
  · rw [h3, (m_join_p (g := f) wf hp).1, hp.2.2]
  · rw [m_join_o wf hp hf hne h3 h1]
    exact m_die_r h3 h2
theorem m_join_sz {p f : Int} (wf : m_wf s) (hp : m_isP s p) (hf : m_isF s f) (hne : s (100 + 6 * p + 5) ≠ f) (x : Int) : m_sz (m_join s p f) x (-1) = m_sz s x (-1) - (if s (100 + 6 * p + 5) = x then 1 else 0) + (if f = x then 1 else 0) := by
  have w0 := wf.1.1
  have hp1 := hp.1
  have hp2 := hp.2.1
  have wp := wf.1.2.2.1 p hp1 hp2
  have hf1 := hf.1
  obtain ⟨j1, j2⟩ := m_join_p (g := f) wf hp
  rw [m_szU (s := s) (p := p) ⟨hp1, hp2⟩ (m_join_cell wf hp hf hne (by omega) (by omega)) (fun i h0 h1 hn => ⟨m_join_cell wf hp hf hne (by omega) (by omega), m_join_cell wf hp hf hne (by omega) (by omega)⟩)]
  have a1 : m_in s x (-1) p ↔ s (100 + 6 * p + 5) = x := by
    have := hp.2.2
    simp only [m_in]
    omega
  have a2 : m_in (m_join s p f) x (-1) p ↔ f = x := by
    simp only [m_in]
    rw [j1, j2]
    omega
  simp only [a1, a2]
/-- the people of g go over to f, one by one -/
def m_jn (s : Int → Int) (f g : Int) : Nat → Int → Int
  | 0 => s
  | k + 1 => if m_jn s f g k (100 + 6 * k) = 1 ∧ m_jn s f g k (100 + 6 * k + 5) = g then m_join (m_jn s f g k) k f else m_jn s f g k
theorem m_jn_s {f g : Int} {k : Nat} : m_jn s f g (k + 1) = if m_jn s f g k (100 + 6 * k) = 1 ∧ m_jn s f g k (100 + 6 * k + 5) = g then m_join (m_jn s f g k) k f else m_jn s f g k := rfl
/-- what holds while they go -/
def m_jI (s S : Int → Int) (f g : Int) (k : Int) : Prop := m_wf S ∧ m_isF S f ∧ (∀ c, (∀ p, 0 ≤ p → p < s 7 → c ≠ 100 + 6 * p + 5) → c ≠ 460 + 3 * g → S c = s c) ∧
  (∀ p, 0 ≤ p → p < s 7 → S (100 + 6 * p + 5) = if p < k ∧ s (100 + 6 * p) = 1 ∧ s (100 + 6 * p + 5) = g then f else s (100 + 6 * p + 5)) ∧ m_sz S f (-1) + m_sz S g (-1) ≤ 6
theorem m_jI_c {S : Int → Int} {f g k : Int} (wf : m_wf s) (hg : m_isF s g) (h : m_jI s S f g k) : S 7 = s 7 ∧ S 8 = s 8 ∧ ∀ p, 0 ≤ p → p < s 7 → S (100 + 6 * p) = s (100 + 6 * p) := by
  have w0 := wf.1.1
  have hg1 := hg.1
  refine ⟨h.2.2.1 7 (fun p _ _ => by omega) (by omega), h.2.2.1 8 (fun p _ _ => by omega) (by omega), fun p x y => h.2.2.1 _ (fun q _ _ => by omega) (by omega)⟩
theorem m_jI_s {S : Int → Int} {f g k : Int} (wf : m_wf s) (hg : m_isF s g) (hfg : f ≠ g) (h : m_jI s S f g k) (hk : 0 ≤ k ∧ k < s 7) (hc : S (100 + 6 * k) = 1 ∧ S (100 + 6 * k + 5) = g) : m_isP S k ∧ m_isF S f ∧ S (100 + 6 * k + 5) ≠ f ∧ m_sz S f (-1) ≠ 6 ∧ m_jI s (m_join S k f) f g (k + 1) := by
  have w0 := wf.1.1
  have hg1 := hg.1
  have hg2 := hg.2.1
  obtain ⟨e7, e8, ea⟩ := m_jI_c wf hg h
  obtain ⟨h1, h2, h3, h4, h5⟩ := h
  have hp : m_isP S k := ⟨hk.1, by rw [e7]; exact hk.2, hc.1⟩
  have hgS : m_isF S g := ⟨hg1, by rw [e8]; exact hg2, by have := h1.2.1 k hp; rw [hc.2] at this; exact this⟩
  have zg := (h1.2.2.1 g hgS).1
  have hne : S (100 + 6 * k + 5) ≠ f := by rw [hc.2]; exact fun x => hfg x.symm
  have h6 : m_sz S f (-1) ≠ 6 := by omega
  have hf1 := h2.1
  have hf2 := h2.2.1
  have zf := m_join_sz h1 hp h2 hne f
  have zg' := m_join_sz h1 hp h2 hne g
  rw [hc.2, if_neg (fun x => hfg x.symm), if_pos rfl] at zf
  rw [hc.2, if_pos rfl, if_neg hfg] at zg'
  refine ⟨hp, h2, hne, h6, m_wf_join h1 hp h2 hne h6, ?_, fun c c1 c2 => ?_, fun p x y => ?_, by omega⟩
  · refine ⟨hf1, ?_, ?_⟩
    · rw [m_join_cell h1 hp h2 hne (by omega) (by omega)]; exact hf2
    · rw [m_join_cell h1 hp h2 hne (by omega) (by rw [hc.2]; omega)]; exact h2.2.2
  · rw [m_join_cell h1 hp h2 hne (c1 k hk.1 hk.2) (by rw [hc.2]; exact c2)]
    exact h3 c c1 c2
  · by_cases e : p = k
    · subst e
      rw [(m_join_p (g := f) h1 hp).2]
      have := h4 p x y
      rw [if_neg (by omega), hc.2] at this
      have ea := ea p x y
      rw [if_pos ⟨by omega, by omega, this.symm⟩]
    · rw [m_join_cell h1 hp h2 hne (by omega) (by rw [hc.2]; omega), h4 p x y]
      by_cases c : p < k ∧ s (100 + 6 * p) = 1 ∧ s (100 + 6 * p + 5) = g
      · rw [if_pos c, if_pos ⟨by omega, c.2⟩]
      · rw [if_neg c, if_neg (fun z => c ⟨by omega, z.2⟩)]
theorem m_jI_n {S : Int → Int} {f g k : Int} (wf : m_wf s) (hg : m_isF s g) (h : m_jI s S f g k) (hk : 0 ≤ k ∧ k < s 7) (hc : ¬ (S (100 + 6 * k) = 1 ∧ S (100 + 6 * k + 5) = g)) : m_jI s S f g (k + 1) := by
  obtain ⟨e7, e8, ea⟩ := m_jI_c wf hg h
  obtain ⟨h1, h2, h3, h4, h5⟩ := h
  refine ⟨h1, h2, h3, fun p x y => ?_, h5⟩
  rw [h4 p x y]
  by_cases e : p = k
  · subst e
    have h4 := h4 p x y
    rw [if_neg (by omega)] at h4
    rw [if_neg (by omega), if_neg (fun z => hc ⟨by rw [ea p x y]; exact z.2.1, by rw [h4]; exact z.2.2⟩)]
  · by_cases c : p < k ∧ s (100 + 6 * p) = 1 ∧ s (100 + 6 * p + 5) = g
    · rw [if_pos c, if_pos ⟨by omega, c.2⟩]
    · rw [if_neg c, if_neg (fun z => c ⟨by omega, z.2⟩)]
theorem m_jn_I {f g : Int} (wf : m_wf s) (hf : m_isF s f) (hg : m_isF s g) (hfg : f ≠ g) (h6 : m_sz s f (-1) + m_sz s g (-1) ≤ 6) : ∀ k : Nat, (k : Int) ≤ s 7 → m_jI s (m_jn s f g k) f g k
  | 0, _ => ⟨wf, hf, fun _ _ _ => rfl, fun p _ _ => by
    have e : m_jn s f g 0 = s := rfl
    rw [e, if_neg (by omega)], h6⟩
  | k + 1, hk => by
    have ih := m_jn_I wf hf hg hfg h6 k (by omega)
    rw [m_jn_s]
    by_cases c : m_jn s f g k (100 + 6 * k) = 1 ∧ m_jn s f g k (100 + 6 * k + 5) = g
    · rw [if_pos c]
      exact (m_jI_s wf hg hfg ih (by omega) c).2.2.2.2
    · rw [if_neg c]
      exact m_jI_n wf hg ih (by omega) c
theorem c17 {f g : Int} (rf : c_rf 20 I s) (wf : m_wf s) (hf : m_isF s f) (hg : m_isF s g) (hfg : f ≠ g) (h6 : m_sz s f (-1) + m_sz s g (-1) ≤ 6)
    (k : ∀ I', w_fr pF I I' → c_rf 20 I' (m_jn s f g (s 7).toNat) → Q none I' J b) : w_C xs xl 17 [.ref 20, w_i f, w_i g] I J b Q := by
  have w0 := wf.1.1
  have hf1 := hf.1
  have hf2 := hf.2.1
  have hg1 := hg.1
  have hg2 := hg.2.1
  refine e17 (b17_0 ?_)
  have loop : ∀ (m k' : Nat) (l3 : Int) (I1 : w_I), (k' : Int) + m = s 7 → l3 = k' → w_fr pF I I1 → c_rf 20 I1 (m_jn s f g k') → w_T xs xl 17 2 [some (.ref 20), some (w_i f), some (w_i g), some (w_i l3)] [] [] I1 J b Q := by
    intro m
    induction m with
    | zero =>
      intro k' l3 I1 a0 a1 a2 a3
      have jI := m_jn_I wf hf hg hfg h6 k' (by omega)
      obtain ⟨e7, e8, ea⟩ := m_jI_c wf hg jI
      have r13 : I1 20 13 = s 7 := by
        have a3' := a3
        simp only [c_rf, Nat.reduceAdd] at a3'
        rw [a3'.1, e7]
      have kk := k I1 a2 (by rw [show (s 7).toNat = k' by omega]; exact a3)
      refine b17_2 ?_
      try simp only [w_Ug, reduceIte, Nat.reduceEqDiff, Int.reduceEq, eq_self, r13]
      repeat' (first | apply And.intro | intro)
      all_goals (try first | omega | contradiction | exact Or.inl trivial | exact Or.inr trivial)
    | succ m ih =>
      intro k' l3 I1 a0 a1 a2 a3
      have jI := m_jn_I wf hf hg hfg h6 k' (by omega)
      obtain ⟨e7, e8, ea⟩ := m_jI_c wf hg jI
      have a3' := a3
      simp only [c_rf, Nat.reduceAdd] at a3'
      obtain ⟨r13, -, -, -, rp, -⟩ := a3'
      rw [e7] at r13
      have rp := rp l3 (by omega) (by rw [e7]; omega)
      have wp := jI.1.1.2.2.1 l3 (by omega) (by rw [e7]; omega)
      have ws := m_jn_s (s := s) (f := f) (g := g) (k := k')
      rw [← a1] at ws
      generalize hS : m_jn s f g k' = S at *
      have i25 : (S (100 + 6 * l3) = 1 ∧ S (100 + 6 * l3 + 5) = g ↔ I1 25 l3 = g) ∧ w_in (I1 25 l3) := by omega
      obtain ⟨i25a, i25b⟩ := i25
      by_cases c : S (100 + 6 * l3) = 1 ∧ S (100 + 6 * l3 + 5) = g
      · rw [if_pos c] at ws
        obtain ⟨q1, q2, q3, q4, q5⟩ := m_jI_s wf hg hfg (a1 ▸ jI) (by omega) c
        have i25c := i25a.mp c
        refine b17_2 ?_
        try simp only [w_Ug, reduceIte, Nat.reduceEqDiff, Int.reduceEq, eq_self, r13]
        repeat' (first | apply And.intro | intro)
        all_goals (try first | omega | contradiction | exact Or.inl trivial | exact Or.inr trivial)
        refine c14 a3 jI.1 q1 (fun I2 fr2 r2 => b17_25 ?_)
        have d8 : m_die S l3 8 = S 8 := m_die_r (by omega) (by omega)
        have d7 : m_die S l3 7 = S 7 := m_die_r (by omega) (by omega)
        have jp := m_join_p (g := f) jI.1 q1
        refine c13 (D := m_die S l3) (E := m_join S l3 f) r2 (by omega) (by omega) (by omega) (by omega) (by rw [m_die_p jI.1 q1]; omega) jp.1 jp.2 (fun k' a1 a2 => m_join_o jI.1 q1 q2 q3 a1 a2) (fun I3 fr3 r3 => b17_31 ?_)
        refine ih (k' + 1) (l3 + 1) I3 (by omega) (by omega) (w_frt a2 (w_frt fr2 fr3)) ?_
        rw [ws]
        exact r3
      · rw [if_neg c] at ws
        have i25c : I1 25 l3 ≠ g := fun x => c (i25a.mpr x)
        refine b17_2 ?_
        try simp only [w_Ug, reduceIte, Nat.reduceEqDiff, Int.reduceEq, eq_self, r13]
        repeat' (first | apply And.intro | intro)
        all_goals (try first | omega | contradiction | exact Or.inl trivial | exact Or.inr trivial)
        refine ih (k' + 1) (l3 + 1) I1 (by omega) (by omega) a2 ?_
        rw [ws]
        exact a3
  exact loop (s 7).toNat 0 0 I (by omega) rfl w_frr rf
/-- two as one, in a house -/
def m_wed (s : Int → Int) (f g hh : Int) : Int → Int := u1 (m_jn s f g (s 7).toNat) (460 + 3 * f + 1) hh
abbrev m_lvg (s : Int → Int) (f : Int) : Prop := m_isF s f ∧ 0 ≤ s (460 + 3 * f + 1)
abbrev m_wk (s : Int → Int) (f g hh : Int) : Prop := f ≠ g ∧ m_lvg s f ∧ m_lvg s g ∧ m_sz s f (-1) + m_sz s g (-1) ≤ 6 ∧ (hh = s (460 + 3 * f + 1) ∨ hh = s (460 + 3 * g + 1))
theorem m_jn_end {f g hh : Int} (wf : m_wf s) (h : m_wk s f g hh) : m_jI s (m_jn s f g (s 7).toNat) f g (s 7) ∧ ¬ m_isF (m_jn s f g (s 7).toNat) g := by
  have w0 := wf.1.1
  obtain ⟨h1, h2, h3, h4, h5⟩ := h
  have jI := m_jn_I wf h2.1 h3.1 h1 h4 (s 7).toNat (by omega)
  rw [show (((s 7).toNat : Nat) : Int) = s 7 by omega] at jI
  refine ⟨jI, fun hg => ?_⟩
  obtain ⟨e7, e8, ea⟩ := m_jI_c wf h3.1 jI
  have z := (jI.1.2.2.1 g hg).1
  have z0 := (m_sz_z (m_jn s f g (s 7).toNat) g (-1)).mpr (fun p x y hin => by
    rw [e7] at y
    have a := jI.2.2.2.1 p x y
    have b1 := hin.1
    rw [ea p x y] at b1
    have b2 := hin.2
    have wp := wf.1.2.2.1 p x y
    have hg1 := hg.1
    by_cases c : p < s 7 ∧ s (100 + 6 * p) = 1 ∧ s (100 + 6 * p + 5) = g
    · rw [if_pos c] at a
      have := h2.1.1
      omega
    · rw [if_neg c] at a
      have : s (100 + 6 * p + 5) = g := by omega
      exact c ⟨y, b1, this⟩)
  omega
theorem m_wed_own {f g hh : Int} (wf : m_wf s) (h : m_wk s f g hh) (ho : hh = s (460 + 3 * f + 1)) : m_wed s f g hh = m_jn s f g (s 7).toNat := by
  have w0 := wf.1.1
  obtain ⟨jI, -⟩ := m_jn_end wf h
  obtain ⟨h1, h2, h3, h4, h5⟩ := h
  have hf1 := h2.1.1
  have hf2 := h2.1.2.1
  have hg1 := h3.1.1
  unfold m_wed
  funext k
  rw [u1g]
  split
  · rename_i e
    rw [e, ho]
    exact (jI.2.2.1 (460 + 3 * f + 1) (fun p x y => by omega) (by omega)).symm
  · rfl
theorem m_wed_emp {f g hh : Int} (wf : m_wf s) (h : m_wk s f g hh) (ho : hh = s (460 + 3 * g + 1)) : m_emp (m_jn s f g (s 7).toNat) hh := by
  have w0 := wf.1.1
  obtain ⟨jI, ng⟩ := m_jn_end wf h
  obtain ⟨h1, h2, h3, h4, h5⟩ := h
  obtain ⟨e7, e8, ea⟩ := m_jI_c wf h3.1 jI
  intro x hx e
  have hg1 := h3.1.1
  have x1 := hx.1
  have x2 := hx.2.1
  have x3 := hx.2.2
  by_cases c : x = g
  · subst c; exact ng hx
  · rw [e8] at x2
    rw [jI.2.2.1 _ (fun p _ _ => by omega) (by omega)] at x3
    rw [jI.2.2.1 _ (fun p _ _ => by omega) (by omega)] at e
    exact c (wf.2.2.2 x g ⟨x1, x2, x3⟩ h3.1 (by omega) (by omega))
theorem m_wf_wed {f g hh : Int} (wf : m_wf s) (h : m_wk s f g hh) : m_wf (m_wed s f g hh) := by
  have h' := h
  obtain ⟨h1, h2, h3, h4, h5⟩ := h'
  obtain ⟨jI, ng⟩ := m_jn_end wf h
  have e0 := jI.2.2.1 0 (fun p _ _ => by omega) (by have := h3.1.1; omega)
  rcases h5 with ho | ho
  · rw [m_wed_own wf h ho]
    exact jI.1
  · have w3 := wf.1.2.2.2.1 g h3.1.1 h3.1.2.1
    exact m_wf_home jI.1 jI.2.1 (Or.inr ⟨by omega, by omega, m_wed_emp wf h ho⟩)
/-- what the state of the two as one says -/
theorem m_wed_c {f g hh : Int} (wf : m_wf s) (h : m_wk s f g hh) : (∀ c, (∀ p, 0 ≤ p → p < s 7 → c ≠ 100 + 6 * p + 5) → c ≠ 460 + 3 * g → c ≠ 460 + 3 * f + 1 → m_wed s f g hh c = s c) ∧ (∀ p, 0 ≤ p → p < s 7 → m_wed s f g hh (100 + 6 * p + 5) = if s (100 + 6 * p) = 1 ∧ s (100 + 6 * p + 5) = g then f else s (100 + 6 * p + 5)) ∧ m_wed s f g hh (460 + 3 * f + 1) = hh ∧ ¬ m_isF (m_wed s f g hh) g := by
  have w0 := wf.1.1
  have h' := h
  obtain ⟨h1, h2, h3, h4, h5⟩ := h'
  obtain ⟨jI, ng⟩ := m_jn_end wf h
  have hf1 := h2.1.1
  have hg1 := h3.1.1
  unfold m_wed
  refine ⟨fun c c1 c2 c3 => ?_, fun p x y => ?_, ?_, fun hx => ng ?_⟩
  · rw [u1g, if_neg c3]
    exact jI.2.2.1 c c1 c2
  · rw [u1g, if_neg (by omega), jI.2.2.2.1 p x y]
    by_cases c : s (100 + 6 * p) = 1 ∧ s (100 + 6 * p + 5) = g
    · rw [if_pos ⟨y, c⟩, if_pos c]
    · rw [if_neg (fun z => c z.2), if_neg c]
  · rw [u1g, if_pos rfl]
  · have x2 := hx.2.1
    have x3 := hx.2.2
    rw [u1g, if_neg (by omega)] at x2 x3
    exact ⟨hx.1, x2, x3⟩
theorem m_wed_T {f g hh : Int} (wf : m_wf s) (h : m_wk s f g hh) : m_eqT s (m_wed s f g hh) ∧ m_wed s f g hh 7 = s 7 ∧ m_wed s f g hh 8 = s 8 ∧ m_wed s f g hh 9 = s 9 := by
  have hf1 := h.2.1.1.1
  have hg1 := h.2.2.1.1.1
  obtain ⟨c1, -⟩ := m_wed_c wf h
  refine ⟨fun k hk => c1 k (fun p _ _ => by omega) (by omega) (by omega), c1 7 (fun p _ _ => by omega) (by omega) (by omega), c1 8 (fun p _ _ => by omega) (by omega) (by omega), c1 9 (fun p _ _ => by omega) (by omega) (by omega)⟩
theorem c16o {f h : Int} (rf : c_rf 20 I s) (wf : m_wf s) (hf : m_isF s f) (hh : 0 ≤ h ∧ s (460 + 3 * f + 1) = h) (k : ∀ I', w_fr pF I I' → c_rf 20 I' s → Q none I' J b) : w_C xs xl 16 [.ref 20, w_i f, w_i h] I J b Q := by
  have w0 := wf.1.1
  have ch := c_home rf wf hf
  have hf1 := hf.1
  have hf2 := hf.2.1
  have e28 : I 28 f = h := by omega
  have rf' := rf
  simp only [c_rf, Nat.reduceAdd] at rf'
  obtain ⟨-, -, -, -, -, -, rh, -⟩ := rf'
  have rh := rh h hh.1 (by omega)
  have e30 : I 30 h = f := by
    by_cases x : I 30 h = -1
    · exact absurd hh.2 (rh.1 x f hf)
    · obtain ⟨q1, q2⟩ := rh.2 x
      exact wf.2.2.2 _ f q1 hf (by omega) (by omega)
  refine e16 (b16_0 ?_)
  refine e15 ?_
  refine b15_0 ?_
  try simp only [w_Ug, reduceIte, Nat.reduceEqDiff, Int.reduceEq, eq_self, e28]
  repeat' (first | apply And.intro | intro)
  all_goals (try first | omega | contradiction | exact Or.inl trivial | exact Or.inr trivial)
  refine b16_5 ?_
  try simp only [w_Ug, reduceIte, Nat.reduceEqDiff, Int.reduceEq, eq_self, if_true]
  repeat' (first | apply And.intro | intro)
  all_goals (try first | omega | contradiction | exact Or.inl trivial | exact Or.inr trivial)
  refine k _ (w_frU (w_frU (w_frU (w_frU w_frr rfl) rfl) rfl) rfl) ?_
  have e : w_U (w_U (w_U (w_U I 30 h (-1)) 28 f (-1)) 28 f h) 30 h f = I := by
    funext a k
    simp only [w_Ug]
    by_cases a1 : a = 30
    · subst a1
      simp only [if_true, if_neg (show ¬ (30 : Nat) = 28 by decide)]
      by_cases k1 : k = h
      · rw [if_pos k1, k1, e30]
      · simp only [if_neg k1]
    · simp only [if_neg a1]
      by_cases a2 : a = 28
      · subst a2
        simp only [if_true]
        by_cases k1 : k = f
        · rw [if_pos k1, k1, e28]
        · simp only [if_neg k1]
      · simp only [if_neg a2]
  rw [e]
  exact rf
theorem c157 {f : Int} (rf : c_rf 20 I s) (wf : m_wf s) (hf : w_in f) (k1 : m_lvg s f → Q (some (w_i 1)) I J b) (k0 : ¬ m_lvg s f → Q (some (w_i 0)) I J b) : w_C xs xl 157 [.ref 0, w_i f] I J b Q := by
  have w0 := wf.1.1
  refine e157 (b157_0 ?_)
  refine c6 rf wf hf (fun h => ?_) (fun h => ?_)
  · have h1 := h.1
    have h2 := h.2.1
    have ch := c_home rf wf h
    refine b157_8 ?_
    try simp only [w_Ug, reduceIte, Nat.reduceEqDiff, Int.reduceEq, eq_self, if_true]
    repeat' (first | apply And.intro | intro)
    all_goals (try first | omega | contradiction | exact Or.inl trivial | exact Or.inr trivial)
    · exact k0 (fun x => by omega)
    · exact k1 ⟨h, by omega⟩
  · have kk := k0 (fun x => h x.1)
    refine b157_8 ?_
    try simp only [w_Ug, reduceIte, Nat.reduceEqDiff, Int.reduceEq, eq_self, if_true]
    repeat' (first | apply And.intro | intro)
    all_goals (try first | omega | contradiction | exact Or.inl trivial | exact Or.inr trivial)
theorem c55k {F0 : Int → Int} {st : Int} (rf : c_rf 20 I s) (rt : c_rt I s) (wf : m_wf s) (hst : 1 ≤ st ∧ st ≤ 20) (ra : c_rf 34 I F0)
    (k : ∀ n r, r_ok n r (m_S s (-1)) (m_rk s (m_kf s st)) → ∀ I', w_fr pK I I' → c_rf 34 I' F0 → Q (some (w_i (m_anw s n r))) I' J b) : w_C xs xl 55 [.ref 89, w_i st] I J b Q := by
  have w := wf.1
  have w0 := w.1
  refine e55 (b55_0 ?_)
  rw [rt.2.2.2.2.1]
  refine c22 rf wf (by omega) (by decide) hst (fun I1 g1 ag1 => b55_19 ?_)
  have fr1 := pA_fr g1
  have rf1 := pA_rf fr1 rf
  have rt1 := pA_rt fr1 rt
  have ra1 : c_rf 34 I1 F0 := c_rf_fr (fun a h1 h2 => g1 a (by omega) (by omega)) ra
  refine c23 (c := -1) (kf := m_kf s st) rf1 rt1 wf (fun g x y => ⟨(ag1 g x y).2, by
    have := m_kf_b w (st := st) (g := g) hst.1
    omega⟩) (Or.inl rfl) (fun n I2 fr2 n2 nb r2 => b55_27 ?_)
  have ra2 : c_rf 34 I2 F0 := c_rf_fr (fun a h1 h2 => w_frA fr2 (fun k => by
    simp only [p24, Bool.or_eq_false_iff, Bool.and_eq_false_iff, beq_eq_false_iff_ne, ne_eq]
    omega)) ra1
  have n0 := r2.1
  have nb := m_row_b wf r2
  have frZ := pZ_K (w_frt (pA_Z fr1) (p24_Z fr2))
  have rf2 := pK_rf frZ rf
  refine c60r (r := I2 84) rf2 wf r2 (by decide) n2 (fun _ _ _ => rfl) (fun I3 fr3 h3 => b55_33 ?_)
  have ra3 : c_rf 34 I3 F0 := c_rf_fr (fun a h1 h2 => w_frA fr3 (fun k => by
    simp only [p60, beq_eq_false_iff_ne]
    omega)) ra2
  have k := k n (I2 84) r2
  have rh := fun i x y => m_row_h wf r2 (i := i) x y
  generalize I2 84 = r at *
  have fr := w_frt frZ (p60_K fr3)
  have n3 : I3 78 6 = n := by rw [fr3 78 6 rfl]; exact n2
  have t5 : I3 2 5 = s 0 := (pK_rt fr rt).1
  rw [n3, t5]
  refine c62 (sp := fun i => m_hm s (r i)) (by omega) (Or.inl rfl) (by omega) n3 (by omega) (fun i x y => ?_) (fun I4 fr4 => b55_63 ?_)
  · have := rh i x y
    have e := h3 i x y
    unfold l_sp at e
    rw [if_pos (by omega)] at e
    exact ⟨by omega, by omega, by omega⟩
  · have ra4 : c_rf 34 I4 F0 := c_rf_fr (fun a h1 h2 => w_frA fr4 (fun k => by
      simp only [p62, beq_eq_false_iff_ne]
      omega)) ra3
    have k := k I4 (w_frt fr (p62_K fr4)) ra4
    have e : l_w (l_x (fun i => m_hm s (r i)) n 0) (s 0 - n) n.toNat 0 0 = l_w (fun i => m_hm s (r i) - i) (s 0 - n) n.toNat 0 0 := by
      refine l_w_c _ _ _ (fun j x y => ?_)
      unfold l_x
      rw [if_pos (by omega)]
    rw [e]
    exact k
theorem c150 {f g l : Int} (rf : c_rf 20 I s) (rt : c_rt I s) (wf : m_wf s) (hf : w_in f) (hg : w_in g) (hl : w_in l)
    (kN : ¬ (f ≠ g ∧ m_lvg s f ∧ m_lvg s g) → Q (some (w_i (-1))) I J b) (k0 : f ≠ g ∧ m_lvg s f ∧ m_lvg s g → m_tt s ∨ 6 < m_sz s f (-1) + m_sz s g (-1) → Q (some (w_i (-2))) I J b)
    (k1 : ¬ m_tt s → ∀ hh, (l = 0 → hh = s (460 + 3 * f + 1)) → (l ≠ 0 → hh = s (460 + 3 * g + 1)) → m_wk s f g hh → ∀ n r, r_ok n r (m_S (m_wed s f g hh) (-1)) (m_rk (m_wed s f g hh) (m_kf (m_wed s f g hh) (s 1))) → ∀ I', w_fr p51 I I' → c_rf 20 I' s → Q (some (w_i (m_anw (m_wed s f g hh) n r))) I' J b) : w_C xs xl 150 [.ref 0, w_i f, w_i g, w_i l] I J b Q := by
  have w := wf.1
  have w0 := w.1
  refine e150 ?_
  by_cases c1 : f = g
  · have kk := kN (fun x => x.1 c1)
    refine b150_0 ?_
    try simp only [w_Ug, reduceIte, Nat.reduceEqDiff, Int.reduceEq, eq_self, if_true]
    repeat' (first | apply And.intro | intro)
    all_goals (try first | omega | contradiction | exact Or.inl trivial | exact Or.inr trivial)
  · refine b150_0 ?_
    try simp only [w_Ug, reduceIte, Nat.reduceEqDiff, Int.reduceEq, eq_self, if_true]
    repeat' (first | apply And.intro | intro)
    all_goals (try first | omega | contradiction | exact Or.inl trivial | exact Or.inr trivial)
    refine c157 rf wf hf (fun c2 => ?_) (fun c2 => ?_)
    · refine b150_10 ?_
      try simp only [w_Ug, reduceIte, Nat.reduceEqDiff, Int.reduceEq, eq_self, if_true]
      repeat' (first | apply And.intro | intro)
      all_goals (try first | omega | contradiction | exact Or.inl trivial | exact Or.inr trivial)
      refine c157 rf wf hg (fun c3 => ?_) (fun c3 => ?_)
      · have hf1 := c2.1.1
        have hf2 := c2.1.2.1
        have hg1 := c3.1.1
        have hg2 := c3.1.2.1
        have rf' := rf
        simp only [c_rf, Nat.reduceAdd] at rf'
        obtain ⟨-, -, -, -, -, rff, -⟩ := rf'
        have z1 := (rff f hf1 hf2).1
        have z2 := (rff g hg1 hg2).1
        have zb1 := wf.2.2.1 f c2.1
        have zb2 := wf.2.2.1 g c3.1
        refine b150_18 ?_
        try simp only [w_Ug, reduceIte, Nat.reduceEqDiff, Int.reduceEq, eq_self, if_true]
        repeat' (first | apply And.intro | intro)
        all_goals (try first | omega | contradiction | exact Or.inl trivial | exact Or.inr trivial)
        refine c104 rt w (fun ht => ?_) (fun ht => ?_)
        · have kk := k0 ⟨c1, c2, c3⟩ (Or.inl ht)
          refine b150_30 ?_
          try simp only [w_Ug, reduceIte, Nat.reduceEqDiff, Int.reduceEq, eq_self, if_true]
          repeat' (first | apply And.intro | intro)
          all_goals (try first | omega | contradiction | exact Or.inl trivial | exact Or.inr trivial)
        · by_cases c4 : m_sz s f (-1) + m_sz s g (-1) ≤ 6
          · refine b150_30 ?_
            try simp only [w_Ug, reduceIte, Nat.reduceEqDiff, Int.reduceEq, eq_self, z1, z2]
            repeat' (first | apply And.intro | intro)
            all_goals (try first | omega | contradiction | exact Or.inl trivial | exact Or.inr trivial)
            refine c4_34_20 rf w (fun I1 f1 a1 => ?_)
            have fr1 : w_fr pK I I1 := fun a k e => by
              have : a < 34 ∨ 47 < a := by
                apply Decidable.byContradiction
                intro hc
                simp only [pK, Bool.or_eq_false_iff, Bool.and_eq_false_iff, beq_eq_false_iff_ne, ne_eq, ble_f] at e
                omega
              rw [f1 a this]
            have rf1 := pK_rf fr1 rf
            have ch1 := c_home rf1 wf c2.1
            have ch2 := c_home rf1 wf c3.1
            have i1 : I1 28 f = s (460 + 3 * f + 1) := by omega
            have i2 : I1 28 g = s (460 + 3 * g + 1) := by omega
            have w3f := w.2.2.2.1 f hf1 hf2
            have w3g := w.2.2.2.1 g hg1 hg2
            have go : ∀ hh (u2 u3 u5 : Option Value), (l = 0 → hh = s (460 + 3 * f + 1)) → (l ≠ 0 → hh = s (460 + 3 * g + 1)) → w_C xs xl 17 [.ref 20, w_i f, w_i g] I1 J b (fun v Ic Jc bc => w_T xs xl 150 107 [some (.ref 0), some (w_i f), u2, u3, some (w_i hh), u5] [] (w_pv v []) Ic Jc bc Q) := by
              intro hh u2 u3 u5 e1 e2
              have hk : m_wk s f g hh := ⟨c1, c2, c3, c4, by omega⟩
              refine c17 rf1 wf c2.1 c3.1 c1 c4 (fun I2 fr2 r2 => b150_107 ?_)
              obtain ⟨jI, ng⟩ := m_jn_end wf hk
              have keep : ∀ {I' : w_I}, w_fr pF I1 I' → c_rf 34 I' s := fun fr => c_rf_fr (fun a h1 h2 => pF_78 fr a (by omega)) a1
              have fin : ∀ (I3 : w_I), w_fr pF I1 I3 → c_rf 20 I3 (m_wed s f g hh) → w_T xs xl 150 117 [some (.ref 0), some (w_i f), u2, u3, some (w_i hh), u5] [] [] I3 J b Q := by
                intro I3 fr3 r3
                have a3 := keep fr3
                obtain ⟨hT, e7, e8, e9⟩ := m_wed_T wf hk
                have wfE := m_wf_wed wf hk
                have fr3' : w_fr p51 I I3 := w_frt (pK_51 fr1) (pF_51 fr3)
                have rt3 := c_rt_c (p51_rt fr3' rt) w hT
                have t6 : I3 2 6 = s 1 := (p51_rt fr3' rt).2.1
                refine b150_117 ?_
                rw [t6]
                have w6 : 1 ≤ s 1 ∧ s 1 ≤ 20 := w0.2.1
                -- movedAnew leaves the copy as it is
                refine c55k r3 rt3 wfE w6 a3 (fun n r hr I4 fr4 a4 => b150_131 ?_)
                refine c4_20_34 a4 w (fun I5 f5 r5 => b150_144 ?_)
                refine k1 ht hh e1 e2 hk n r hr I5 (w_frt fr3' (w_frt (pK_51 fr4) (pF_51 (fun a k e => ?_)))) r5
                have : a < 20 ∨ 33 < a := by
                  simp only [pF, Bool.and_eq_false_iff, ble_f] at e
                  omega
                rw [f5 a this]
              rcases hk.2.2.2.2 with ho | ho
              · have hj := jI.2.2.1 (460 + 3 * f + 1) (fun p _ _ => by omega) (by omega)
                refine c16o r2 jI.1 jI.2.1 ⟨by omega, by omega⟩ (fun I3 fr3 r3 => fin I3 (w_frt fr2 fr3) ?_)
                rw [m_wed_own wf hk ho]
                exact r3
              · have e0 := jI.2.2.1 0 (fun p _ _ => by omega) (by omega)
                refine c16 r2 jI.1 jI.2.1 ⟨by omega, by omega, m_wed_emp wf hk ho⟩ (fun I3 fr3 r3 => fin I3 (w_frt fr2 fr3) r3)
            by_cases c5 : l = 0
            · refine b150_71 ?_
              try simp only [w_Ug, reduceIte, Nat.reduceEqDiff, Int.reduceEq, eq_self, i1]
              repeat' (first | apply And.intro | intro)
              all_goals (try first | omega | contradiction | exact Or.inl trivial | exact Or.inr trivial)
              exact go _ _ _ _ (fun _ => rfl) (fun x => absurd c5 x)
            · refine b150_71 ?_
              try simp only [w_Ug, reduceIte, Nat.reduceEqDiff, Int.reduceEq, eq_self, i2]
              repeat' (first | apply And.intro | intro)
              all_goals (try first | omega | contradiction | exact Or.inl trivial | exact Or.inr trivial)
              exact go _ _ _ _ (fun x => absurd x c5) (fun _ => rfl)
          · have kk := k0 ⟨c1, c2, c3⟩ (Or.inr (by omega))
            refine b150_30 ?_
            try simp only [w_Ug, reduceIte, Nat.reduceEqDiff, Int.reduceEq, eq_self, z1, z2]
            repeat' (first | apply And.intro | intro)
            all_goals (try first | omega | contradiction | exact Or.inl trivial | exact Or.inr trivial)
      · have kk := kN (fun x => c3 x.2.2)
        refine b150_18 ?_
        try simp only [w_Ug, reduceIte, Nat.reduceEqDiff, Int.reduceEq, eq_self, if_true]
        repeat' (first | apply And.intro | intro)
        all_goals (try first | omega | contradiction | exact Or.inl trivial | exact Or.inr trivial)
    · have kk := kN (fun x => c2 x.2.1)
      refine b150_10 ?_
      try simp only [w_Ug, reduceIte, Nat.reduceEqDiff, Int.reduceEq, eq_self, if_true]
      repeat' (first | apply And.intro | intro)
      all_goals (try first | omega | contradiction | exact Or.inl trivial | exact Or.inr trivial)
end
