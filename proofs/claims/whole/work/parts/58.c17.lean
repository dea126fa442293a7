section
/-! calls: count -/
variable {xs : Nat → Int32} {xl : Nat} {I J : w_I} {b : Bool} {Q : Option Value → w_I → w_I → Bool → Prop}
variable {s : Int → Int}
theorem c8 (rf : c_rf 20 I s) (wf : m_wf s) (k : Q (some (w_i (m_np s))) I J b) : w_C xs xl 8 [.ref 20] I J b Q := by
  have w := wf.1
  have w0 := w.1
  have e := m_np_e w
  have rf' := rf
  simp only [c_rf, Nat.reduceAdd] at rf'
  obtain ⟨r13, r14, -, -, -, rff, -⟩ := rf'
  refine e8 (b8_0 ?_)
  have loop : ∀ (m n : Nat) (l1 l2 : Int), (n : Int) + m = s 8 → l2 = n → l1 = m_sum (fun f => m_sz s f (-1)) n → w_T xs xl 8 4 [some (.ref 20), some (w_i l1), some (w_i l2)] [] [] I J b Q := by
    intro m
    induction m with
    | zero =>
      intro n l1 l2 a0 a1 a2
      have : l1 = m_np s := by rw [a2, ← e, show (s 8).toNat = n by omega]
      rw [← this] at k
      refine b8_4 ?_
      try simp only [w_Ug, reduceIte, Nat.reduceEqDiff, Int.reduceEq, eq_self, r14]
      repeat' (first | apply And.intro | intro)
      all_goals (try first | omega | contradiction | exact Or.inl trivial | exact Or.inr trivial)
    | succ m ih =>
      intro n l1 l2 a0 a1 a2
      have r26 := (rff l2 (by omega) (by omega)).1
      refine b8_4 ?_
      try simp only [w_Ug, reduceIte, Nat.reduceEqDiff, Int.reduceEq, eq_self, r14, r26]
      repeat' (first | apply And.intro | intro)
      all_goals (try first | omega | contradiction | exact Or.inl trivial | exact Or.inr trivial)
      refine ih (n + 1) _ _ (by omega) (by omega) ?_
      rw [m_sum_s, a2, a1]
  exact loop (s 8).toNat 0 0 0 (by omega) rfl rfl
theorem c9 (rf : c_rf 20 I s) (wf : m_wf s) (k : Q (some (w_i (m_nf s))) I J b) : w_C xs xl 9 [.ref 20] I J b Q := by
  have w := wf.1
  have w0 := w.1
  have rf' := rf
  simp only [c_rf, Nat.reduceAdd] at rf'
  obtain ⟨r13, r14, -, -, -, rff, -⟩ := rf'
  refine e9 (b9_0 ?_)
  have loop : ∀ (m n : Nat) (l1 l2 : Int), (n : Int) + m = s 8 → l2 = n → l1 = m_sum (fun f => if s (460 + 3 * f) = 1 then 1 else 0) n → w_T xs xl 9 4 [some (.ref 20), some (w_i l1), some (w_i l2)] [] [] I J b Q := by
    intro m
    induction m with
    | zero =>
      intro n l1 l2 a0 a1 a2
      have : l1 = m_nf s := by rw [a2]; unfold m_nf; rw [show (s 8).toNat = n by omega]
      rw [← this] at k
      refine b9_4 ?_
      try simp only [w_Ug, reduceIte, Nat.reduceEqDiff, Int.reduceEq, eq_self, r14]
      repeat' (first | apply And.intro | intro)
      all_goals (try first | omega | contradiction | exact Or.inl trivial | exact Or.inr trivial)
    | succ m ih =>
      intro n l1 l2 a0 a1 a2
      have r26 := (rff l2 (by omega) (by omega)).1
      have z := m_isF_sz wf (f := l2) (by omega)
      have zb := m_sz_b w (f := l2) (g := -1)
      refine b9_4 ?_
      try simp only [w_Ug, reduceIte, Nat.reduceEqDiff, Int.reduceEq, eq_self, r14, r26]
      repeat' (first | apply And.intro | intro)
      all_goals (try first | omega | contradiction | exact Or.inl trivial | exact Or.inr trivial)
      · refine ih (n + 1) _ _ (by omega) (by omega) ?_
        rw [m_sum_s, a2, ← a1, if_neg (by omega)]
      · refine ih (n + 1) _ _ (by omega) (by omega) ?_
        rw [m_sum_s, a2, ← a1, if_pos (by omega)]
  exact loop (s 8).toNat 0 0 0 (by omega) rfl rfl
theorem c10 (rf : c_rf 20 I s) (wf : m_wf s) (k : Q (some (w_i (m_nl s))) I J b) : w_C xs xl 10 [.ref 20] I J b Q := by
  have w := wf.1
  have w0 := w.1
  have e := m_nl_e rf wf
  have rf' := rf
  simp only [c_rf, Nat.reduceAdd] at rf'
  obtain ⟨-, -, -, -, -, -, rh, -⟩ := rf'
  refine e10 (b10_0 ?_)
  have loop : ∀ (m n : Nat) (l1 l2 : Int), (n : Int) + m = 24 → l2 = n → l1 = m_sum (fun h => if I 30 h = -1 then 0 else 1) n → w_T xs xl 10 4 [some (.ref 20), some (w_i l1), some (w_i l2)] [] [] I J b Q := by
    intro m
    induction m with
    | zero =>
      intro n l1 l2 a0 a1 a2
      have : l1 = m_nl s := by rw [a2, ← e, show (24 : Nat) = n by omega]
      rw [← this] at k
      refine b10_4 ?_
      try simp only [w_Ug, reduceIte, Nat.reduceEqDiff, Int.reduceEq, eq_self, if_true]
      repeat' (first | apply And.intro | intro)
      all_goals (try first | omega | contradiction | exact Or.inl trivial | exact Or.inr trivial)
    | succ m ih =>
      intro n l1 l2 a0 a1 a2
      have rh := rh l2 (by omega) (by omega)
      have hb : w_in (I 30 l2) := by
        by_cases x : I 30 l2 = -1
        · rw [x]; decide
        · have := (rh.2 x).1.1; have := (rh.2 x).1.2.1; omega
      refine b10_4 ?_
      try simp only [w_Ug, reduceIte, Nat.reduceEqDiff, Int.reduceEq, eq_self, if_true]
      repeat' (first | apply And.intro | intro)
      all_goals (try first | omega | contradiction | exact Or.inl trivial | exact Or.inr trivial)
      · rename_i c
        refine ih (n + 1) _ _ (by omega) (by omega) ?_
        rw [m_sum_s, a2, ← a1, if_pos c]
      · rename_i c
        refine ih (n + 1) _ _ (by omega) (by omega) ?_
        rw [m_sum_s, a2, ← a1, if_neg c]
  exact loop 24 0 0 0 (by omega) rfl rfl
theorem c154 {a hl : Int} (rf : c_rf 20 I s) (rt : c_rt I s) (wf : m_wf s) (ha : w_in a) (h0 : I 49 0 = 0 ∨ I 49 0 = 1) (h1 : I 49 1 = 0 ∨ I 49 1 = 1) (hh : I 49 0 + I 49 1 = hl) (k : Q (some (w_i (m_count s (I 0 1) hl a))) I J b) : w_C xs xl 154 [.ref 0, w_i a] I J b Q := by
  have w := wf.1
  have w0 := w.1
  have rf' := rf
  simp only [c_rf, Nat.reduceAdd] at rf'
  obtain ⟨r13, r14, r15, r16, -⟩ := rf'
  obtain ⟨t5, t6, t7, t8, t10, -⟩ := rt
  refine e154 ?_
  unfold m_count at k
  refine b154_0 ?_
  try simp only [w_Ug, reduceIte, Nat.reduceEqDiff, Int.reduceEq, eq_self, r13, r14, r15, r16, t5, t6, t7, t8, t10]
  repeat' (first | apply And.intro | intro)
  all_goals (try first | omega | contradiction | exact Or.inl trivial | exact Or.inr trivial)
  all_goals try simp (disch := omega) only [if_pos, if_neg] at k
  all_goals first
    | exact k
    | (rw [show hl = 0 + 0 by omega] at k; exact k)
    | (rw [show hl = 0 + 1 by omega] at k; exact k)
    | (rw [show hl = 1 + 1 by omega] at k; exact k)
    | exact c8 rf wf (b154_87 k)
    | exact c9 rf wf (b154_95 k)
    | exact c10 rf wf (b154_103 k)
    | (rw [show s 3 = 0 by omega] at k; exact k)
    | (rw [show s 3 = 1 by omega] at k; exact k)
theorem s285 {a hl : Int} (hs : I 110 = s) (wf : m_wf s) (ha : w_in a) (h0 : I 121 2 = 0 ∨ I 121 2 = 1) (h1 : I 121 3 = 0 ∨ I 121 3 = 1) (hh : I 121 2 + I 121 3 = hl) (k : Q (some (w_i (m_count s (I 104 0) hl a))) I J b) : w_C xs xl 285 [.ref 104, w_i a] I J b Q := by
  have w := wf.1
  have w0 := w.1
  refine e285 ?_
  have loop1 : ∀ (m n : Nat) (l2 l3 : Int) (u1 : Option Value), Q (some (w_i (m_np s))) I J b → (n : Int) + m = s 7 → l3 = n → l2 = m_sum (fun p => if s (100 + 6 * p) = 1 then 1 else 0) n → w_T xs xl 285 81 [some (.ref 104), u1, some (w_i l2), some (w_i l3)] [] [] I J b Q := by
    intro m
    induction m with
    | zero =>
      intro n l2 l3 u1 k a0 a1 a2
      have : l2 = m_np s := by rw [a2]; unfold m_np; rw [show (s 7).toNat = n by omega]
      rw [← this] at k
      refine b285_81 ?_
      try simp only [w_Ug, reduceIte, Nat.reduceEqDiff, Int.reduceEq, eq_self, hs]
      repeat' (first | apply And.intro | intro)
      all_goals (try first | omega | contradiction | exact Or.inl trivial | exact Or.inr trivial)
    | succ m ih =>
      intro n l2 l3 u1 k a0 a1 a2
      refine b285_81 ?_
      try simp only [w_Ug, reduceIte, Nat.reduceEqDiff, Int.reduceEq, eq_self, hs]
      repeat' (first | apply And.intro | intro)
      all_goals (try first | omega | contradiction | exact Or.inl trivial | exact Or.inr trivial)
      refine s210 hs w (by omega) (fun c => ?_) (fun c => ?_)
      · refine b285_98 ?_
        try simp only [w_Ug, reduceIte, Nat.reduceEqDiff, Int.reduceEq, eq_self, if_true]
        repeat' (first | apply And.intro | intro)
        all_goals (try first | omega | contradiction | exact Or.inl trivial | exact Or.inr trivial)
        refine ih (n + 1) _ _ _ k (by omega) (by omega) ?_
        rw [m_sum_s, a2, ← a1, if_pos c.2.2]
      · refine b285_98 ?_
        try simp only [w_Ug, reduceIte, Nat.reduceEqDiff, Int.reduceEq, eq_self, if_true]
        repeat' (first | apply And.intro | intro)
        all_goals (try first | omega | contradiction | exact Or.inl trivial | exact Or.inr trivial)
        refine ih (n + 1) _ _ _ k (by omega) (by omega) ?_
        rw [m_sum_s, a2, ← a1, if_neg (fun x => c ⟨by omega, by omega, x⟩)]
  have loop2 : ∀ (m n : Nat) (l2 l3 : Int) (u1 : Option Value), Q (some (w_i (m_nf s))) I J b → (n : Int) + m = s 8 → l3 = n → l2 = m_sum (fun f => if s (460 + 3 * f) = 1 then 1 else 0) n → w_T xs xl 285 118 [some (.ref 104), u1, some (w_i l2), some (w_i l3)] [] [] I J b Q := by
    intro m
    induction m with
    | zero =>
      intro n l2 l3 u1 k a0 a1 a2
      have : l2 = m_nf s := by rw [a2]; unfold m_nf; rw [show (s 8).toNat = n by omega]
      rw [← this] at k
      refine b285_118 ?_
      try simp only [w_Ug, reduceIte, Nat.reduceEqDiff, Int.reduceEq, eq_self, hs]
      repeat' (first | apply And.intro | intro)
      all_goals (try first | omega | contradiction | exact Or.inl trivial | exact Or.inr trivial)
    | succ m ih =>
      intro n l2 l3 u1 k a0 a1 a2
      refine b285_118 ?_
      try simp only [w_Ug, reduceIte, Nat.reduceEqDiff, Int.reduceEq, eq_self, hs]
      repeat' (first | apply And.intro | intro)
      all_goals (try first | omega | contradiction | exact Or.inl trivial | exact Or.inr trivial)
      refine s211 hs w (by omega) (fun c => ?_) (fun c => ?_)
      · refine b285_135 ?_
        try simp only [w_Ug, reduceIte, Nat.reduceEqDiff, Int.reduceEq, eq_self, if_true]
        repeat' (first | apply And.intro | intro)
        all_goals (try first | omega | contradiction | exact Or.inl trivial | exact Or.inr trivial)
        refine ih (n + 1) _ _ _ k (by omega) (by omega) ?_
        rw [m_sum_s, a2, ← a1, if_pos c.2.2]
      · refine b285_135 ?_
        try simp only [w_Ug, reduceIte, Nat.reduceEqDiff, Int.reduceEq, eq_self, if_true]
        repeat' (first | apply And.intro | intro)
        all_goals (try first | omega | contradiction | exact Or.inl trivial | exact Or.inr trivial)
        refine ih (n + 1) _ _ _ k (by omega) (by omega) ?_
        rw [m_sum_s, a2, ← a1, if_neg (fun x => c ⟨by omega, by omega, x⟩)]
  have loop3 : ∀ (m n : Nat) (l2 l3 : Int) (u1 : Option Value), Q (some (w_i (m_nl s))) I J b → (n : Int) + m = s 8 → l3 = n → l2 = m_sum (fun f => if s (460 + 3 * f) = 1 ∧ 0 ≤ s (460 + 3 * f + 1) then 1 else 0) n → w_T xs xl 285 155 [some (.ref 104), u1, some (w_i l2), some (w_i l3)] [] [] I J b Q := by
    intro m
    induction m with
    | zero =>
      intro n l2 l3 u1 k a0 a1 a2
      have : l2 = m_nl s := by rw [a2]; unfold m_nl; rw [show (s 8).toNat = n by omega]
      rw [← this] at k
      refine b285_155 ?_
      try simp only [w_Ug, reduceIte, Nat.reduceEqDiff, Int.reduceEq, eq_self, hs]
      repeat' (first | apply And.intro | intro)
      all_goals (try first | omega | contradiction | exact Or.inl trivial | exact Or.inr trivial)
    | succ m ih =>
      intro n l2 l3 u1 k a0 a1 a2
      refine b285_155 ?_
      try simp only [w_Ug, reduceIte, Nat.reduceEqDiff, Int.reduceEq, eq_self, hs]
      repeat' (first | apply And.intro | intro)
      all_goals (try first | omega | contradiction | exact Or.inl trivial | exact Or.inr trivial)
      refine s274 hs w (by omega) (fun c => ?_) (fun c => ?_)
      · refine b285_172 ?_
        try simp only [w_Ug, reduceIte, Nat.reduceEqDiff, Int.reduceEq, eq_self, if_true]
        repeat' (first | apply And.intro | intro)
        all_goals (try first | omega | contradiction | exact Or.inl trivial | exact Or.inr trivial)
        refine ih (n + 1) _ _ _ k (by omega) (by omega) ?_
        rw [m_sum_s, a2, ← a1, if_pos ⟨c.1.2.2, c.2⟩]
      · refine b285_172 ?_
        try simp only [w_Ug, reduceIte, Nat.reduceEqDiff, Int.reduceEq, eq_self, if_true]
        repeat' (first | apply And.intro | intro)
        all_goals (try first | omega | contradiction | exact Or.inl trivial | exact Or.inr trivial)
        refine ih (n + 1) _ _ _ k (by omega) (by omega) ?_
        rw [m_sum_s, a2, ← a1, if_neg (fun x => c ⟨⟨by omega, by omega, x.1⟩, x.2⟩)]
  unfold m_count at k
  refine b285_0 ?_
  try simp only [w_Ug, reduceIte, Nat.reduceEqDiff, Int.reduceEq, eq_self, hs]
  repeat' (first | apply And.intro | intro)
  all_goals (try first | omega | contradiction | exact Or.inl trivial | exact Or.inr trivial)
  all_goals try simp (disch := omega) only [if_pos, if_neg] at k
  all_goals first
    | exact k
    | (rw [show hl = 0 + 0 by omega] at k; exact k)
    | (rw [show hl = 0 + 1 by omega] at k; exact k)
    | (rw [show hl = 1 + 1 by omega] at k; exact k)
    | exact loop1 (s 7).toNat 0 0 0 _ k (by omega) rfl rfl
    | exact loop2 (s 8).toNat 0 0 0 _ k (by omega) rfl rfl
    | exact loop3 (s 8).toNat 0 0 0 _ k (by omega) rfl rfl
end
