section
/-! calls: join, person; where a family lives -/
variable {xs : Nat → Int32} {xl : Nat} {I J : w_I} {b : Bool} {Q : Option Value → w_I → w_I → Bool → Prop}
variable {s : Int → Int}
theorem m_join_o {p g k : Int} (wf : m_wf s) (hp : m_isP s p) (hg : m_isF s g) (hne : s (100 + 6 * p + 5) ≠ g) (h1 : k ≠ 100 + 6 * p) (h2 : k ≠ 100 + 6 * p + 5) : m_join s p g k = m_die s p k := by
  have w0 := wf.1.1
  have hp1 := hp.1
  have hp2 := hp.2.1
  have hp3 := hp.2.2
  have wp := wf.1.2.2.1 p hp1 hp2
  have m0 : m_in s (s (100 + 6 * p + 5)) (-1) p := ⟨hp3, Or.inl rfl⟩
  have e1 : m_sz (u1 s (100 + 6 * p + 5) g) (s (100 + 6 * p + 5)) (-1) = m_sz s (s (100 + 6 * p + 5)) (-1) - 1 := by
    rw [m_szU (s := s) (p := p) ⟨hp1, hp2⟩ (by rw [u1g, if_neg (by omega)]) (fun i h0 h1 hne => by simp (disch := omega) only [u1g, if_neg]; exact ⟨trivial, trivial⟩), if_pos m0]
    have : ¬ m_in (u1 s (100 + 6 * p + 5) g) (s (100 + 6 * p + 5)) (-1) p := by
      have hg1 := hg.1
      simp (disch := omega) only [m_in, u1g, if_neg, if_pos, if_true]
      omega
    rw [if_neg this]
    omega
  have e2 : m_sz (u1 s (100 + 6 * p) 0) (s (100 + 6 * p + 5)) (-1) = m_sz s (s (100 + 6 * p + 5)) (-1) - 1 := by
    rw [m_szU (s := s) (p := p) ⟨hp1, hp2⟩ (by rw [u1g, if_neg (by omega)]) (fun i h0 h1 hne => by simp (disch := omega) only [u1g, if_neg]; exact ⟨trivial, trivial⟩), if_pos m0]
    have : ¬ m_in (u1 s (100 + 6 * p) 0) (s (100 + 6 * p + 5)) (-1) p := fun h => by
      have := h.1
      rw [u1g, if_pos rfl] at this
      omega
    rw [if_neg this]
    omega
  unfold m_join m_die m_lv
  rw [e1, e2]
  split
  · simp only [u1g, if_neg h1, if_neg h2]
  · simp only [u1g, if_neg h1, if_neg h2]
theorem m_join_p {p g : Int} (wf : m_wf s) (hp : m_isP s p) : m_join s p g (100 + 6 * p) = 1 ∧ m_join s p g (100 + 6 * p + 5) = g := by
  have w0 := wf.1.1
  have hp1 := hp.1
  have hp2 := hp.2.1
  have hp3 := hp.2.2
  have wp := wf.1.2.2.1 p hp1 hp2
  unfold m_join m_lv
  split
  · simp (disch := omega) only [u1g, if_neg, if_pos, if_true]
    exact ⟨hp3, trivial⟩
  · simp (disch := omega) only [u1g, if_neg, if_pos, if_true]
    exact ⟨hp3, trivial⟩
theorem c125 {p g : Int} (rf : c_rf 20 I s) (wf : m_wf s) (hp : w_in p) (hg : w_in g)
    (k1 : m_isP s p → m_isF s g → s (100 + 6 * p + 5) ≠ g → m_sz s g (-1) ≠ 6 → ∀ I', w_fr pF I I' → c_rf 20 I' (m_join s p g) → Q (some (w_i 1)) I' J b)
    (k0 : ¬ (m_isP s p ∧ m_isF s g ∧ s (100 + 6 * p + 5) ≠ g ∧ m_sz s g (-1) ≠ 6) → Q (some (w_i 0)) I J b) : w_C xs xl 125 [.ref 0, w_i p, w_i g] I J b Q := by
  have w := wf.1
  have w0 := w.1
  have rf' := rf
  simp only [c_rf, Nat.reduceAdd] at rf'
  obtain ⟨r13, r14, r15, r16, rp, rff, -⟩ := rf'
  refine e125 (b125_0 ?_)
  refine c5 rf w hp (fun h => ?_) (fun h => ?_)
  · have rp := rp p h.1 h.2.1
    have h1 := h.1
    have h2 := h.2.1
    have h3 := h.2.2
    have wp := w.2.2.1 p h1 h2
    have e25 : I 25 p = s (100 + 6 * p + 5) := rp.2.2.2.2.1 h3
    refine b125_8 ?_
    try simp only [w_Ug, reduceIte, Nat.reduceEqDiff, Int.reduceEq, eq_self, if_true]
    repeat' (first | apply And.intro | intro)
    all_goals (try first | omega | contradiction)
    refine c6 rf wf hg (fun h' => ?_) (fun h' => ?_)
    · have h1' := h'.1
      have h2' := h'.2.1
      have h3' := h'.2.2
      have hsz := wf.2.2.1 g h'
      have e26 := (rff g h1' h2').1
      refine b125_19 ?_
      try simp only [w_Ug, reduceIte, Nat.reduceEqDiff, Int.reduceEq, eq_self, e25, e26]
      repeat' (first | apply And.intro | intro)
      all_goals (try first | omega | contradiction)
      · rename_i hc
        exact k0 (fun hh => by have := hh.2.2.2; omega)
      · rename_i hc hne
        refine c14 rf wf h (fun I2 f2 r2 => b125_61 ?_)
        have e8 : m_die s p 8 = s 8 := m_die_r (by omega) (by omega)
        have e7 : m_die s p 7 = s 7 := m_die_r (by omega) (by omega)
        have jp := m_join_p (g := g) wf h
        refine c13 (D := m_die s p) (E := m_join s p g) r2 (by omega) (by omega) (by omega) (by omega) (by rw [m_die_p wf h]; omega) jp.1 jp.2 (fun k' a1 a2 => m_join_o wf h h' hne a1 a2) (fun I3 f3 r3 => b125_70 ?_)
        exact k1 h h' hne (by omega) I3 (w_frt f2 f3) r3
      · rename_i hc hne
        exact k0 (fun hh => hh.2.2.1 hne)
    · have := k0 (fun hh => h' hh.2.1)
      refine b125_19 ?_
      try simp only [w_Ug, reduceIte, Nat.reduceEqDiff, Int.reduceEq, eq_self, e25]
      repeat' (first | apply And.intro | intro)
      all_goals (try first | omega | contradiction)
  · have := k0 (fun hh => h hh.1)
    refine b125_8 ?_
    try simp only [w_Ug, reduceIte, Nat.reduceEqDiff, Int.reduceEq, eq_self, if_true]
    repeat' (first | apply And.intro | intro)
    all_goals (try first | omega | contradiction)
def m_person (s : Int → Int) (p a : Int) : Int := if m_isP s p then (if a = 0 then m_pa s p 1 else if a = 1 then m_pa s p 0 else if a = 2 then s (100 + 6 * p + 3) else if a = 3 then s (100 + 6 * p + 5) else -1) else -1
theorem c127 {p a : Int} (rf : c_rf 20 I s) (w : m_w0 s) (hp : w_in p) (ha : w_in a) (k : Q (some (w_i (m_person s p a))) I J b) : w_C xs xl 127 [.ref 0, w_i p, w_i a] I J b Q := by
  have w0 := w.1
  have rf' := rf
  simp only [c_rf, Nat.reduceAdd] at rf'
  obtain ⟨r13, r14, r15, r16, rp, rff, -⟩ := rf'
  refine e127 (b127_0 ?_)
  unfold m_person at k
  refine c5 rf w hp (fun h => ?_) (fun h => ?_)
  · have rp := rp p h.1 h.2.1
    have h1 := h.1
    have h2 := h.2.1
    have h3 := h.2.2
    have e25 : I 25 p = s (100 + 6 * p + 5) := rp.2.2.2.2.1 h3
    have e24 : I 24 p = s (100 + 6 * p + 3) := rp.2.2.2.1
    rw [if_pos h] at k
    refine b127_8 ?_
    try simp only [w_Ug, reduceIte, Nat.reduceEqDiff, Int.reduceEq, eq_self, e25, e24]
    repeat' (first | apply And.intro | intro)
    all_goals (try first | omega | contradiction)
    · rename_i e
      rw [if_pos e] at k
      exact c11 rf w ⟨h1, h2⟩ (by decide) (b127_53 k)
    · rename_i e1 e
      rw [if_neg e1, if_pos e] at k
      exact c11 rf w ⟨h1, h2⟩ (by decide) (b127_63 k)
    · rename_i e2 e1 e
      rw [if_neg e2, if_neg e1, if_pos e] at k
      exact k
    · rename_i e3 e2 e1 e
      rw [if_neg e3, if_neg e2, if_neg e1, if_pos e] at k
      exact k
    · rename_i e3 e2 e1 e
      rw [if_neg e3, if_neg e2, if_neg e1, if_neg e] at k
      exact k
  · rw [if_neg h] at k
    refine b127_8 ?_
    try simp only [w_Ug, reduceIte, Nat.reduceEqDiff, Int.reduceEq, eq_self, if_true]
    repeat' (first | apply And.intro | intro)
    all_goals (try first | omega | contradiction)
theorem s226 {p a : Int} (hs : I 110 = s) (w : m_w0 s) (hp : w_in p) (ha : w_in a) (k : Q (some (w_i (m_person s p a))) I J b) : w_C xs xl 226 [.ref 104, w_i p, w_i a] I J b Q := by
  have w0 := w.1
  refine e226 (b226_0 ?_)
  unfold m_person at k
  refine s210 hs w hp (fun h => ?_) (fun h => ?_)
  · have h1 := h.1
    have h2 := h.2.1
    have h3 := h.2.2
    rw [if_pos h] at k
    refine b226_5 ?_
    try simp only [w_Ug, reduceIte, Nat.reduceEqDiff, Int.reduceEq, eq_self, hs]
    repeat' (first | apply And.intro | intro)
    all_goals (try first | omega | contradiction)
    · rename_i e
      rw [if_pos e] at k
      exact s215 hs w ⟨h1, h2⟩ (by decide) (b226_46 k)
    · rename_i e1 e
      rw [if_neg e1, if_pos e] at k
      exact s215 hs w ⟨h1, h2⟩ (by decide) (b226_53 k)
    · rename_i e2 e1 e
      rw [if_neg e2, if_neg e1, if_pos e] at k
      exact k
    · rename_i e3 e2 e1 e
      rw [if_neg e3, if_neg e2, if_neg e1, if_pos e] at k
      exact k
    · rename_i e3 e2 e1 e
      rw [if_neg e3, if_neg e2, if_neg e1, if_neg e] at k
      exact k
  · rw [if_neg h] at k
    refine b226_5 ?_
    try simp only [w_Ug, reduceIte, Nat.reduceEqDiff, Int.reduceEq, eq_self, hs]
    repeat' (first | apply And.intro | intro)
    all_goals (try first | omega | contradiction)
end
