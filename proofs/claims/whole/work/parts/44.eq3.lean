section
/-! rules: the class's code is sound -/
section RU
variable {c : Int → Int} {F : m_F} {e : Int}
theorem g_ok1 {j : Int} {d : Nat} (hj : j < e) (hc : 20010 ≤ c j ∧ c j ≤ 20040 ∧ c j ≠ 20036) (h : g_ok c (e - (j + 1)).toNat (j + 1) (d + 1)) : g_ok c (e - j).toNat j (d + 2) := by
  rw [show (e - j).toNat = (e - (j + 1)).toNat + 1 by omega]
  unfold g_ok
  exact Or.inr (Or.inr ⟨by omega, by omega, hc.2.2, by omega, h⟩)
theorem g_okn {j : Int} {d : Nat} (hj : j < e) (hc : c j = 20036) (h : g_ok c (e - (j + 1)).toNat (j + 1) (d + 1)) : g_ok c (e - j).toNat j (d + 1) := by
  rw [show (e - j).toNat = (e - (j + 1)).toNat + 1 by omega]
  unfold g_ok
  exact Or.inr (Or.inl ⟨hc, by omega, h⟩)
theorem g_okl {k j j1 j2 : Int} {d : Nat} (hd : d ≤ 2) (hl : m_lok F k) (h1 : j1 = j + (m_lb F k - m_la F k) + (m_lc F k - m_lb F k) + 1) (h2 : ∀ i, 0 ≤ i → i < m_lb F k - m_la F k → c (j + i) = m_fc F (m_la F k + i)) (h3 : ∀ i, 0 ≤ i → i < m_lc F k - m_lb F k → c (j + (m_lb F k - m_la F k) + i) = m_fc F (m_lb F k + i)) (h4 : c (j1 - 1) = cw (m_lo F k))
    (h5 : m_ln F k = 1 → c j1 = 20036 ∧ j2 = j1 + 1) (h6 : m_ln F k ≠ 1 → j2 = j1) (he : j2 ≤ e) (h : g_ok c (e - j2).toNat j2 (d + 1)) : g_ok c (e - j).toNat j d := by
  obtain ⟨ln, lo, A, B⟩ := hl
  have a2 := A.2.1
  have b2 := B.2.1
  have hcw := cw_b lo
  have hj1 : j1 ≤ e := by
    by_cases x : m_ln F k = 1
    · have := (h5 x).2; omega
    · have := h6 x; omega
  have g1 : g_ok c (e - j1).toNat j1 (d + 1) := by
    by_cases x : m_ln F k = 1
    · obtain ⟨y1, y2⟩ := h5 x
      refine g_okn (by omega) y1 ?_
      rw [← y2]
      exact h
    · rw [← h6 x]
      exact h
  have g2 : g_ok c (e - (j1 - 1)).toNat (j1 - 1) (d + 2) := by
    refine g_ok1 (by omega) (by rw [h4]; omega) ?_
    rw [show j1 - 1 + 1 = j1 by omega]
    exact g1
  have g3 := g_okseg (c := c) (m := (e - (j1 - 1)).toNat) (d0 := d + 1) (by omega) (m_lc F k - m_lb F k).toNat (j + (m_lb F k - m_la F k)) (m_lb F k) 0 (fun i x y => h3 i x (by omega)) B.2.2.2.2 (by
    rw [show j + (m_lb F k - m_la F k) + (((m_lc F k - m_lb F k).toNat : Nat) : Int) = j1 - 1 by omega]
    exact g2)
  rw [show (m_lc F k - m_lb F k).toNat + (e - (j1 - 1)).toNat = (e - (j + (m_lb F k - m_la F k))).toNat by omega] at g3
  have g4 := g_okseg (c := c) (m := (e - (j + (m_lb F k - m_la F k))).toNat) (d0 := d) (by omega) (m_lb F k - m_la F k).toNat j (m_la F k) 0 (fun i x y => h2 i x (by omega)) A.2.2.2.2 (by
    rw [show j + (((m_lb F k - m_la F k).toNat : Nat) : Int) = j + (m_lb F k - m_la F k) by omega]
    exact g3)
  rw [show (m_lb F k - m_la F k).toNat + (e - (j + (m_lb F k - m_la F k))).toNat = (e - j).toNat by omega] at g4
  exact g4
theorem r_gok {from' to' : Int} (hl : ∀ k, from' ≤ k → k < to' → m_lok F k) (hmo : ∀ k, from' ≤ k → k + 1 < to' → m_lr F k ≤ m_lr F (k + 1)) (hfr : ∀ k, from' ≤ k → k < to' → m_lr F from' ≤ m_lr F k) : ∀ (n : Nat) (k j : Int) (d : Nat), r_rel c F from' (n + 1) k j e → k + (n + 1 : Nat) = to' → from' ≤ k →
    ((¬ r_mid F from' k ∧ ((k = from' ∧ d = 0) ∨ (m_lr F k ≠ m_lr F from' ∧ d = 1))) ∨ (r_mid F from' k ∧ ((m_lr F k = m_lr F from' ∧ d = 1) ∨ (m_lr F k ≠ m_lr F from' ∧ d = 2)))) →
    g_ok c (e - j).toNat j d := by
  intro n
  induction n with
  | zero =>
    intro k j d h hk hfk hs
    obtain ⟨j1, j2, j3, j4, h1, h2, h3, h4, h5, h6, h7, h8, h9, h10, h11⟩ := h
    have h11 : j4 = e := h11
    subst h11
    have j34 : j3 ≤ j4 := by
      by_cases x : ((0 = 0 ∨ m_lr F (k + 1) ≠ m_lr F k) ∧ m_lr F k ≠ m_lr F from')
      · have := (h9 x).2; omega
      · have := h10 x; omega
    have j23 : j2 ≤ j3 := by
      by_cases x : r_mid F from' k
      · have := (h7 x).2; omega
      · have := h8 x; omega
    have last : (m_lr F k = m_lr F from' → g_ok c (j4 - j3).toNat j3 1) ∧ (m_lr F k ≠ m_lr F from' → g_ok c (j4 - j3).toNat j3 2) := by
      refine ⟨fun x => ?_, fun x => ?_⟩
      · rw [h10 (fun y => y.2 x), show (j3 - j3).toNat = 0 by omega]
        exact rfl
      · obtain ⟨y1, y2⟩ := h9 ⟨Or.inl rfl, x⟩
        refine g_ok1 (d := 0) (by omega) (by omega) ?_
        rw [y2, show (j3 + 1 - (j3 + 1)).toNat = 0 by omega]
        exact rfl
    refine g_okl (by omega) (hl k hfk (by omega)) h1 h2 h3 h4 h5 h6 (by omega) ?_
    rcases hs with ⟨m1, m2⟩ | ⟨m1, m2⟩
    · rw [← h8 m1]
      rcases m2 with ⟨x1, x2⟩ | ⟨x1, x2⟩
      · subst x2; exact last.1 (by rw [x1])
      · subst x2; exact last.2 x1
    · obtain ⟨y1, y2⟩ := h7 m1
      rcases m2 with ⟨x1, x2⟩ | ⟨x1, x2⟩
      · subst x2
        refine g_ok1 (d := 0) (by omega) (by omega) ?_
        rw [← y2]; exact last.1 x1
      · subst x2
        refine g_ok1 (d := 1) (by omega) (by omega) ?_
        rw [← y2]; exact last.2 x1
  | succ n ih =>
    intro k j d h hk hfk hs
    obtain ⟨j1, j2, j3, j4, h1, h2, h3, h4, h5, h6, h7, h8, h9, h10, h11⟩ := h
    have hle := r_rel_le (n + 1) (k + 1) j4 (fun i a b => hl i (by omega) (by omega)) h11
    have j34 : j3 ≤ j4 := by
      by_cases x : ((n + 1 = 0 ∨ m_lr F (k + 1) ≠ m_lr F k) ∧ m_lr F k ≠ m_lr F from')
      · have := (h9 x).2; omega
      · have := h10 x; omega
    have j23 : j2 ≤ j3 := by
      by_cases x : r_mid F from' k
      · have := (h7 x).2; omega
      · have := h8 x; omega
    have mo := hmo k hfk (by omega)
    have mf := hfr k hfk (by omega)
    have ek : k + 1 - 1 = k := by omega
    have next : (m_lr F k = m_lr F from' → g_ok c (e - j3).toNat j3 1) ∧ (m_lr F k ≠ m_lr F from' → g_ok c (e - j3).toNat j3 2) := by
      by_cases hr : m_lr F (k + 1) = m_lr F k
      · have j4e := h10 (fun y => y.1.elim (fun z => by omega) (fun z => z hr))
        rw [j4e] at h11
        refine ⟨fun x => ?_, fun x => ?_⟩
        · exact ih (k + 1) j3 1 h11 (by omega) (by omega) (Or.inr ⟨⟨by omega, by rw [ek]; exact hr⟩, Or.inl ⟨by rw [hr]; exact x, rfl⟩⟩)
        · exact ih (k + 1) j3 2 h11 (by omega) (by omega) (Or.inr ⟨⟨by omega, by rw [ek]; exact hr⟩, Or.inr ⟨by rw [hr]; exact x, rfl⟩⟩)
      · have nm : ¬ r_mid F from' (k + 1) := fun y => hr (by have := y.2; rw [ek] at this; exact this)
        refine ⟨fun x => ?_, fun x => ?_⟩
        · have j4e := h10 (fun y => y.2 x)
          rw [j4e] at h11
          exact ih (k + 1) j3 1 h11 (by omega) (by omega) (Or.inl ⟨nm, Or.inr ⟨by omega, rfl⟩⟩)
        · obtain ⟨y1, y2⟩ := h9 ⟨Or.inr hr, x⟩
          refine g_ok1 (d := 0) (by omega) (by omega) ?_
          rw [← y2]
          exact ih (k + 1) j4 1 h11 (by omega) (by omega) (Or.inl ⟨nm, Or.inr ⟨by omega, rfl⟩⟩)
    refine g_okl (by omega) (hl k hfk (by omega)) h1 h2 h3 h4 h5 h6 (by omega) ?_
    rcases hs with ⟨m1, m2⟩ | ⟨m1, m2⟩
    · rw [← h8 m1]
      rcases m2 with ⟨x1, x2⟩ | ⟨x1, x2⟩
      · subst x2; exact next.1 (by rw [x1])
      · subst x2; exact next.2 x1
    · obtain ⟨y1, y2⟩ := h7 m1
      rcases m2 with ⟨x1, x2⟩ | ⟨x1, x2⟩
      · subst x2
        refine g_ok1 (d := 0) (by omega) (by omega) ?_
        rw [← y2]; exact next.1 x1
      · subst x2
        refine g_ok1 (d := 1) (by omega) (by omega) ?_
        rw [← y2]; exact next.2 x1
end RU
end
