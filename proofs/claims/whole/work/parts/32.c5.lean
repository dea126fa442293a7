section
/-! calls: come, join, die, person -/
variable {xs : Nat → Int32} {xl : Nat} {I J : w_I} {b : Bool} {Q : Option Value → w_I → w_I → Bool → Prop}
variable {s : Int → Int}
theorem c12 {y t l : Int} (rf : c_rf 20 I s) (w : m_w0 s) (a7 : s 7 < 60) (a8 : s 8 < 30) (k : ∀ I', w_fr pF I I' → c_rf 20 I' (m_enter s y t l) → Q (some (w_i (s 7))) I' J b) : w_C xs xl 12 [.ref 20, w_i y, w_i t, w_i l] I J b Q := by
  have w0 := w.1
  have rf' := rf
  simp only [c_rf, Nat.reduceAdd] at rf'
  obtain ⟨r13, r14, r15, r16, -⟩ := rf'
  obtain ⟨n0, n1, n2, n3, n4, n5, n6, n7', n8⟩ := m_en_p (y := y) (t := t) (l := l) w a7 a8
  refine e12 (b12_0 ?_)
  refine c7 rf w (fun h => by omega) (fun _ => ?_)
  refine b12_4 ?_
  try simp only [w_Ug, reduceIte, Nat.reduceEqDiff, Int.reduceEq, eq_self, r13, r14, r15]
  repeat' (first | apply And.intro | intro)
  all_goals (try first | omega | contradiction)
  refine e13 ?_
  refine b13_0 ?_
  try simp only [w_Ug, reduceIte, Nat.reduceEqDiff, Int.reduceEq, eq_self, if_true]
  repeat' (first | apply And.intro | intro)
  all_goals (try first | omega | contradiction)
  refine b12_116 (k _ ?_ ?_)
  · exact w_frU (w_frU (w_frU (w_frU (w_frU (w_frU (w_frU (w_frU (w_frU (w_frU (w_frU (w_frU (w_frU w_frr rfl) rfl) rfl) rfl) rfl) rfl) rfl) rfl) rfl) rfl) rfl) rfl) rfl
  · generalize hI1 : w_U (w_U (w_U (w_U (w_U (w_U (w_U (w_U (w_U (w_U I 20 13 (s 7 + 1)) 20 14 (s 8 + 1)) 21 (s 7) (s 9)) 22 (s 7) y) 23 (s 7) t) 24 (s 7) l) 26 (s 8) 0) 27 (s 8) 0) 28 (s 8) (-1)) 29 (s 8) (-1) = I1
    have cn := c_rf_new (y := y) (t := t) (l := l) (I' := I1) rf w a7 a8
      (by rw [← hI1]; simp only [w_Ug, reduceIte, Nat.reduceEqDiff, Int.reduceEq])
      (by rw [← hI1]; simp only [w_Ug, reduceIte, Nat.reduceEqDiff, Int.reduceEq])
      (by rw [← hI1]; simp only [w_Ug, reduceIte, Nat.reduceEqDiff, Int.reduceEq])
      (by rw [← hI1]; simp only [w_Ug, reduceIte, Nat.reduceEqDiff, Int.reduceEq])
      (by rw [← hI1]; exact ⟨rfl, rfl, rfl, rfl, rfl⟩)
      (fun q => by
        rw [← hI1]
        simp only [w_Ug, reduceIte, Nat.reduceEqDiff]
        exact ⟨fun h => ⟨if_pos h, if_pos h, if_pos h, if_pos h⟩, fun h => ⟨if_neg h, if_neg h, if_neg h, if_neg h⟩⟩)
      (fun q => by
        rw [← hI1]
        simp only [w_Ug, reduceIte, Nat.reduceEqDiff]
        exact ⟨fun h => ⟨if_pos h, if_pos h, if_pos h, if_pos h⟩, fun h => ⟨if_neg h, if_neg h, if_neg h, if_neg h⟩⟩)
      (Or.inr trivial) (w_U I1 25 (s 7) (-1)) (fun k' hk => w_Ua hk) (by rw [w_Ug, if_pos rfl, if_pos rfl]) (fun q hq => by rw [w_Ug, if_pos rfl, if_neg hq, ← hI1]; rfl)
    have i26 : I1 26 (s 8) = 0 := by rw [← hI1]; simp only [w_Ug, reduceIte, Nat.reduceEqDiff]
    have i27 : I1 27 (s 8) = 0 := by rw [← hI1]; simp only [w_Ug, reduceIte, Nat.reduceEqDiff]
    have i24 : I1 24 (s 7) = l := by rw [← hI1]; simp only [w_Ug, reduceIte, Nat.reduceEqDiff]
    refine c_rf_in (p := s 7) (g := s 8) cn ?_ ?_ ?_ ?_ ?_ n0 n5 ?_ ?_ ?_ ?_ ?_
    · rw [u1g, if_neg (by omega), m_en_7]; omega
    · rw [u1g, if_neg (by omega), m_en_8]; omega
    · rw [u1g, if_neg (by omega), m_en_7]; omega
    · rw [u1g, if_neg (by omega), m_en_8]; omega
    · rw [u1g, if_pos rfl]; omega
    · intro k' h1 h2
      rw [u1g, if_neg h1]
    · intro a a1 a2 a3
      rw [w_Ua a3, w_Ua a2, w_Ua a1, w_Ua a1]
    · intro q
      simp only [w_Ug, reduceIte, Nat.reduceEqDiff]
      exact ⟨fun h => if_pos h, fun h => by rw [if_neg h, if_neg h]⟩
    · intro q
      simp only [w_Ug, reduceIte, Nat.reduceEqDiff, i26, i27, i24]
      exact ⟨fun h => if_pos h, fun h => if_neg h⟩
    · intro q
      simp only [w_Ug, reduceIte, Nat.reduceEqDiff, i26, i27, i24]
      exact ⟨fun h => if_pos h, fun h => if_neg h⟩
theorem c160 {a : Int} (ha : w_in a) (k1 : 0 ≤ a ∧ a ≤ 99 → Q (some (w_i 1)) I J b) (k0 : ¬ (0 ≤ a ∧ a ≤ 99) → Q (some (w_i 0)) I J b) : w_C xs xl 160 [w_i a] I J b Q := by
  refine e160 ?_
  refine b160_0 ?_
  try simp only [w_Ug, reduceIte, Nat.reduceEqDiff, Int.reduceEq, eq_self, if_true]
  repeat' (first | apply And.intro | intro)
  all_goals (try first | omega | contradiction)
  all_goals first | exact k0 (by omega) | exact k1 (by omega)
/-- may somebody come -/
abbrev m_mc (s : Int → Int) (y t : Int) : Prop := s 7 < 60 ∧ s 8 < 30 ∧ (0 ≤ y ∧ y ≤ 99) ∧ (0 ≤ t ∧ t ≤ 99)
theorem c124 {y t l : Int} (rf : c_rf 20 I s) (w : m_w0 s) (hy : w_in y) (ht : w_in t) (hl : l = 0 ∨ l = 1)
    (k1 : m_mc s y t → ∀ I', w_fr pF I I' → c_rf 20 I' (m_enter s y t l) → Q (some (w_i (s 7))) I' J b) (k0 : ¬ m_mc s y t → Q (some (w_i (-1))) I J b) : w_C xs xl 124 [.ref 0, w_i y, w_i t, w_i l] I J b Q := by
  have w0 := w.1
  refine e124 (b124_0 ?_)
  refine c160 hy (fun h1 => ?_) (fun h1 => ?_)
  · refine b124_4 ?_
    try simp only [w_Ug, reduceIte, Nat.reduceEqDiff, Int.reduceEq, eq_self, if_true]
    repeat' (first | apply And.intro | intro)
    all_goals (try first | omega | contradiction)
    refine c160 ht (fun h2 => ?_) (fun h2 => ?_)
    · refine b124_11 ?_
      try simp only [w_Ug, reduceIte, Nat.reduceEqDiff, Int.reduceEq, eq_self, if_true]
      repeat' (first | apply And.intro | intro)
      all_goals (try first | omega | contradiction)
      refine c7 rf w (fun h3 => ?_) (fun h3 => ?_)
      · have := k0 (by omega)
        refine b124_21 ?_
        try simp only [w_Ug, reduceIte, Nat.reduceEqDiff, Int.reduceEq, eq_self, if_true]
        repeat' (first | apply And.intro | intro)
        all_goals (try first | omega | contradiction)
      · have km := k1 (by omega)
        refine b124_21 ?_
        try simp only [w_Ug, reduceIte, Nat.reduceEqDiff, Int.reduceEq, eq_self, if_true]
        repeat' (first | apply And.intro | intro)
        all_goals (try first | omega | contradiction)
        · rename_i e
          subst e
          exact c12 rf w (by omega) (by omega) (fun I' f r => b124_44 (km I' f r))
        · have e : l = 1 := by omega
          subst e
          exact c12 rf w (by omega) (by omega) (fun I' f r => b124_44 (km I' f r))
    · have := k0 (by omega)
      refine b124_11 ?_
      try simp only [w_Ug, reduceIte, Nat.reduceEqDiff, Int.reduceEq, eq_self, if_true]
      repeat' (first | apply And.intro | intro)
      all_goals (try first | omega | contradiction)
  · have := k0 (by omega)
    refine b124_4 ?_
    try simp only [w_Ug, reduceIte, Nat.reduceEqDiff, Int.reduceEq, eq_self, if_true]
    repeat' (first | apply And.intro | intro)
    all_goals (try first | omega | contradiction)
theorem s221 {y t l : Int} (hs : I 110 = s) (w : m_w0 s) (hy : w_in y) (ht : w_in t) (hl : l = 0 ∨ l = 1)
    (k1 : m_mc s y t → ∀ I', w_fr p110 I I' → I' 110 = m_enter s y t l → Q (some (w_i (s 7))) I' J b) (k0 : ¬ m_mc s y t → Q (some (w_i (-1))) I J b) : w_C xs xl 221 [.ref 104, w_i y, w_i t, w_i l] I J b Q := by
  have w0 := w.1
  refine e221 ?_
  by_cases hf : s 7 = 60 ∨ s 8 = 30
  · have := k0 (by omega)
    refine b221_0 ?_
    try simp only [w_Ug, reduceIte, Nat.reduceEqDiff, Int.reduceEq, eq_self, hs]
    repeat' (first | apply And.intro | intro)
    all_goals (try first | omega | contradiction)
  · refine b221_0 ?_
    try simp only [w_Ug, reduceIte, Nat.reduceEqDiff, Int.reduceEq, eq_self, hs]
    repeat' (first | apply And.intro | intro)
    all_goals (try first | omega | contradiction)
    refine s209 hy (by decide) (by decide) (fun h1 => ?_) (fun h1 => ?_)
    · refine b221_31 ?_
      try simp only [w_Ug, reduceIte, Nat.reduceEqDiff, Int.reduceEq, eq_self, hs]
      repeat' (first | apply And.intro | intro)
      all_goals (try first | omega | contradiction)
      refine s209 ht (by decide) (by decide) (fun h2 => ?_) (fun h2 => ?_)
      · have km := k1 (by omega)
        refine b221_41 ?_
        try simp only [w_Ug, reduceIte, Nat.reduceEqDiff, Int.reduceEq, eq_self, hs]
        repeat' (first | apply And.intro | intro)
        all_goals (try first | omega | contradiction)
        exact s220 hs w (by omega) (by omega) hl (fun I' f r => b221_55 (km I' f r))
      · have := k0 (by omega)
        refine b221_41 ?_
        try simp only [w_Ug, reduceIte, Nat.reduceEqDiff, Int.reduceEq, eq_self, hs]
        repeat' (first | apply And.intro | intro)
        all_goals (try first | omega | contradiction)
    · have := k0 (by omega)
      refine b221_31 ?_
      try simp only [w_Ug, reduceIte, Nat.reduceEqDiff, Int.reduceEq, eq_self, hs]
      repeat' (first | apply And.intro | intro)
      all_goals (try first | omega | contradiction)
theorem c126 {p : Int} (rf : c_rf 20 I s) (wf : m_wf s) (hp : w_in p) (k1 : m_isP s p → ∀ I', w_fr pF I I' → c_rf 20 I' (m_die s p) → Q (some (w_i 1)) I' J b) (k0 : ¬ m_isP s p → Q (some (w_i 0)) I J b) : w_C xs xl 126 [.ref 0, w_i p] I J b Q := by
  refine e126 (b126_0 ?_)
  refine c5 rf wf.1 hp (fun h => ?_) (fun h => ?_)
  · refine b126_8 ?_
    try simp only [w_Ug, reduceIte, Nat.reduceEqDiff, Int.reduceEq, eq_self, if_true]
    repeat' (first | apply And.intro | intro)
    all_goals (try first | omega | contradiction)
    exact c14 rf wf h (fun I' f r => b126_21 (k1 h I' f r))
  · have := k0 h
    refine b126_8 ?_
    try simp only [w_Ug, reduceIte, Nat.reduceEqDiff, Int.reduceEq, eq_self, if_true]
    repeat' (first | apply And.intro | intro)
    all_goals (try first | omega | contradiction)
end
