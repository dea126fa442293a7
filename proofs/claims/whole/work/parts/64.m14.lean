section
/-! the reference: calls least, leastAt, settle -/
variable {xs : Nat → Int32} {xl : Nat} {I J : w_I} {b : Bool} {Q : Option Value → w_I → w_I → Bool → Prop}
variable {s : Int → Int}
theorem m_V_b (F : m_F) {n : Int} {r : Int → Int} (h0 : 0 ≤ n) (hn : n ≤ s 0) (h24 : s 0 ≤ 24) : 0 ≤ m_V F s n r ∧ m_V F s n r < 100000000 := by
  have := l_v_b (pay := m_pf F s 1 r) (H := s 0) (lo := 0) (hi := n) (fun i h _ _ _ _ => m_pay_b) n.toNat 0 (s 0 - n).toNat (by omega) (by omega) (by omega)
  unfold m_V
  omega
def m_lsv (s : Int → Int) (V a : Int) : Int := if a = 0 then V / 1000000 else if a = 1 then V % 1000000 else (V / 1000000 + s 2 - 1) / s 2
theorem s247 {F : m_F} {c a n : Int} {r : Int → Int} (hs : I 110 = s) (hF : m_at I F) (wf : m_wf s) (cd : m_cd F s) (hc : w_in c) (ha : w_in a) (hr : m_cm s c → 0 ≤ a ∧ a ≤ 2 → r_ok n r (m_S s c) (m_rk s (m_kf s (s 1))))
    (kN : ¬ (m_cm s c ∧ 0 ≤ a ∧ a ≤ 2) → Q (some (w_i (-1))) I J b) (k1 : m_cm s c → 0 ≤ a ∧ a ≤ 2 → ¬ m_tt s → n ≤ s 0 → ∀ I', w_fr pP I I' → Q (some (w_i (m_lsv s (m_V F s n r) a))) I' J b) (k0 : m_cm s c → 0 ≤ a ∧ a ≤ 2 → m_tt s ∨ s 0 < n → ∀ I', w_fr pP I I' → Q (some (w_i (-2))) I' J b) : w_C xs xl 247 [.ref 104, w_i c, w_i a] I J b Q := by
  have w := wf.1
  have w0 := w.1
  refine e247 (b247_0 ?_)
  refine s246 hs w hc (fun h1 => ?_) (fun h1 => ?_)
  · refine b247_5 ?_
    try simp only [w_Ug, reduceIte, Nat.reduceEqDiff, Int.reduceEq, eq_self, if_true]
    repeat' (first | apply And.intro | intro)
    all_goals (try first | omega | contradiction | exact Or.inl trivial | exact Or.inr trivial)
    refine s209 ha (by decide) (by decide) (fun h2 => ?_) (fun h2 => ?_)
    · have hr := hr h1 h2
      have n0 := hr.1
      refine b247_14 ?_
      try simp only [w_Ug, reduceIte, Nat.reduceEqDiff, Int.reduceEq, eq_self, if_true]
      repeat' (first | apply And.intro | intro)
      all_goals (try first | omega | contradiction | exact Or.inl trivial | exact Or.inr trivial)
      refine s245 hs hF wf cd h1 hr (fun ht hn I1 fr1 e1 e2 e3 => ?_) (fun h I1 fr1 => ?_)
      · have vb := m_V_b F (r := r) n0 hn (by omega)
        have hs1 : I1 110 = s := (w_frA fr1 (fun _ => rfl)).trans hs
        have k := k1 h1 h2 ht hn I1 fr1
        unfold m_lsv at k
        generalize m_V F s n r = V at vb k
        refine b247_24 ?_
        try simp only [w_Ug, reduceIte, Nat.reduceEqDiff, Int.reduceEq, eq_self, hs1]
        repeat' (first | apply And.intro | intro)
        all_goals (try first | omega | contradiction | exact Or.inl trivial | exact Or.inr trivial)
        · rename_i x1 x2
          rw [if_neg x1, if_neg x2] at k; exact k
        · rename_i x1 x2
          rw [if_neg x1, if_pos x2] at k; exact k
        · rename_i x1
          rw [if_pos x1] at k; exact k
      · have k := k0 h1 h2 h I1 fr1
        refine b247_24 ?_
        try simp only [w_Ug, reduceIte, Nat.reduceEqDiff, Int.reduceEq, eq_self, if_true]
        repeat' (first | apply And.intro | intro)
        all_goals (try first | omega | contradiction | exact Or.inl trivial | exact Or.inr trivial)
    · have kk := kN (fun x => h2 x.2)
      refine b247_14 ?_
      try simp only [w_Ug, reduceIte, Nat.reduceEqDiff, Int.reduceEq, eq_self, if_true]
      repeat' (first | apply And.intro | intro)
      all_goals (try first | omega | contradiction | exact Or.inl trivial | exact Or.inr trivial)
  · have kk := kN (fun x => h1 x.1)
    refine b247_5 ?_
    try simp only [w_Ug, reduceIte, Nat.reduceEqDiff, Int.reduceEq, eq_self, if_true]
    repeat' (first | apply And.intro | intro)
    all_goals (try first | omega | contradiction | exact Or.inl trivial | exact Or.inr trivial)
/-- the house of a family in the row -/
def m_ato (F : m_F) (s : Int → Int) (n : Int) (r : Int → Int) (f : Int) : Nat → Int
  | 0 => -1
  | i + 1 => if r i = f then l_at (m_pf F s 1 r) (s 0) n.toNat i else m_ato F s n r f i
theorem m_ato_at {F : m_F} {n : Int} {r : Int → Int} {f : Int} {i : Nat} (hf : r i = f) : ∀ m : Nat, i < m → (∀ j : Nat, i < j → j < m → r j ≠ f) → m_ato F s n r f m = l_at (m_pf F s 1 r) (s 0) n.toNat i
  | 0, h, _ => by omega
  | m + 1, h, no => by
    unfold m_ato
    by_cases e : i = m
    · subst e; rw [if_pos hf]
    · rw [if_neg (no m (by omega) (by omega))]
      exact m_ato_at hf m (by omega) (fun j a c => no j a (by omega))
abbrev m_lac (s : Int → Int) (c f : Int) : Prop := m_cm s c ∧ m_isF s f ∧ (0 ≤ s (460 + 3 * f + 1) ∨ f = c)
theorem m_lac_S {c f : Int} (h : m_lac s c f) : m_S s c f := by
  obtain ⟨h1, h2, h3⟩ := h
  rcases h3 with x | x
  · exact Or.inl ⟨h2, x⟩
  · exact Or.inr ⟨x, by have := h2.1; omega⟩
theorem s248 {F : m_F} {c f n : Int} {r : Int → Int} (hs : I 110 = s) (hF : m_at I F) (wf : m_wf s) (cd : m_cd F s) (hc : w_in c) (hf : w_in f) (hr : m_lac s c f → r_ok n r (m_S s c) (m_rk s (m_kf s (s 1))))
    (kN : ¬ m_lac s c f → Q (some (w_i (-1))) I J b) (k1 : m_lac s c f → ¬ m_tt s → n ≤ s 0 → ∀ I', w_fr pP I I' → Q (some (w_i (m_ato F s n r f n.toNat))) I' J b) (k0 : m_lac s c f → m_tt s ∨ s 0 < n → ∀ I', w_fr pP I I' → Q (some (w_i (-2))) I' J b) : w_C xs xl 248 [.ref 104, w_i c, w_i f] I J b Q := by
  have w := wf.1
  have w0 := w.1
  refine e248 (b248_0 ?_)
  refine s246 hs w hc (fun h1 => ?_) (fun h1 => ?_)
  · refine b248_5 ?_
    try simp only [w_Ug, reduceIte, Nat.reduceEqDiff, Int.reduceEq, eq_self, if_true]
    repeat' (first | apply And.intro | intro)
    all_goals (try first | omega | contradiction | exact Or.inl trivial | exact Or.inr trivial)
    refine s211 hs w hf (fun h2 => ?_) (fun h2 => ?_)
    · have hf1 := h2.1
      have hf2 := h2.2.1
      have w3 := w.2.2.2.1 f hf1 hf2
      refine b248_13 ?_
      try simp only [w_Ug, reduceIte, Nat.reduceEqDiff, Int.reduceEq, eq_self, if_true]
      repeat' (first | apply And.intro | intro)
      all_goals (try first | omega | contradiction | exact Or.inl trivial | exact Or.inr trivial)
      refine s213 hs (by omega) ?_
      have go : m_lac s c f → ∀ u, w_C xs xl 245 [.ref 104, w_i c] I J b (fun v Ic Jc bc => w_T xs xl 248 36 [some (.ref 104), some (w_i c), some (w_i f), u] [] (w_pv v []) Ic Jc bc Q) := by
        intro hl u
        have hr := hr hl
        have n0 := hr.1
        have nb := m_row_b1 wf h1 hr
        refine s245 hs hF wf cd h1 hr (fun ht hn I1 fr1 e1 e2 e3 => ?_) (fun h I1 fr1 => ?_)
        · have vb := m_V_b F (r := r) n0 hn (by omega)
          have k := k1 hl ht hn I1 fr1
          have hs1 : I1 110 = s := (w_frA fr1 (fun _ => rfl)).trans hs
          obtain ⟨i, i0, i1, i2⟩ := hr.2.2.1 f (m_lac_S hl)
          have ato := m_ato_at (F := F) (s := s) (n := n) (r := r) (f := f) (i := i.toNat) (by rw [show ((i.toNat : Nat) : Int) = i by omega]; exact i2) n.toNat (by omega) (fun j a d e => r_ok_ne hr (i := i) (j := j) i0 (by omega) (by omega) (by rw [i2, e]))
          rw [ato, ← e3 i.toNat (by omega), show ((i.toNat : Nat) : Int) = i by omega] at k
          have loop : ∀ (m : Nat) (l3 : Int), l3 + m = i → 0 ≤ l3 → w_T xs xl 248 47 [some (.ref 104), some (w_i c), some (w_i f), some (w_i l3)] [] [] I1 J b Q := by
            intro m
            induction m with
            | zero =>
              intro l3 a0 a1
              have e : l3 = i := by omega
              subst e
              have e2 := e2 l3 a1 i1
              rw [i2] at e2
              refine b248_47 ?_
              try simp only [w_Ug, reduceIte, Nat.reduceEqDiff, Int.reduceEq, eq_self, e1, e2]
              repeat' (first | apply And.intro | intro)
              all_goals (try first | omega | contradiction | exact Or.inl trivial | exact Or.inr trivial)
            | succ m ih =>
              intro l3 a0 a1
              have e2 := e2 l3 a1 (by omega)
              have hne : r l3 ≠ f := fun e => r_ok_ne hr (i := l3) (j := i) a1 (by omega) i1 (by rw [e, i2])
              have hb := m_S_in h1 _ (hr.2.1 l3 a1 (by omega))
              refine b248_47 ?_
              try simp only [w_Ug, reduceIte, Nat.reduceEqDiff, Int.reduceEq, eq_self, e1, e2]
              repeat' (first | apply And.intro | intro)
              all_goals (try first | omega | contradiction | exact Or.inl trivial | exact Or.inr trivial)
              exact ih (l3 + 1) (by omega) (by omega)
          refine b248_36 ?_
          try simp only [w_Ug, reduceIte, Nat.reduceEqDiff, Int.reduceEq, eq_self, if_true]
          repeat' (first | apply And.intro | intro)
          all_goals (try first | omega | contradiction | exact Or.inl trivial | exact Or.inr trivial)
          exact loop i.toNat 0 (by omega) (by omega)
        · have k := k0 hl h I1 fr1
          refine b248_36 ?_
          try simp only [w_Ug, reduceIte, Nat.reduceEqDiff, Int.reduceEq, eq_self, if_true]
          repeat' (first | apply And.intro | intro)
          all_goals (try first | omega | contradiction | exact Or.inl trivial | exact Or.inr trivial)
      by_cases x : 0 ≤ s (460 + 3 * f + 1)
      · have go := go ⟨h1, h2, Or.inl x⟩
        refine b248_21 ?_
        try simp only [w_Ug, reduceIte, Nat.reduceEqDiff, Int.reduceEq, eq_self, if_true]
        repeat' (first | apply And.intro | intro)
        all_goals (try first | omega | contradiction | exact Or.inl trivial | exact Or.inr trivial)
        exact go _
      · by_cases y : f = c
        · have go := go ⟨h1, h2, Or.inr y⟩
          refine b248_21 ?_
          try simp only [w_Ug, reduceIte, Nat.reduceEqDiff, Int.reduceEq, eq_self, if_true]
          repeat' (first | apply And.intro | intro)
          all_goals (try first | omega | contradiction | exact Or.inl trivial | exact Or.inr trivial)
          exact go _
        · have kk := kN (fun z => z.2.2.elim x y)
          refine b248_21 ?_
          try simp only [w_Ug, reduceIte, Nat.reduceEqDiff, Int.reduceEq, eq_self, if_true]
          repeat' (first | apply And.intro | intro)
          all_goals (try first | omega | contradiction | exact Or.inl trivial | exact Or.inr trivial)
    · have kk := kN (fun x => h2 x.2.1)
      refine b248_13 ?_
      try simp only [w_Ug, reduceIte, Nat.reduceEqDiff, Int.reduceEq, eq_self, if_true]
      repeat' (first | apply And.intro | intro)
      all_goals (try first | omega | contradiction | exact Or.inl trivial | exact Or.inr trivial)
  · have kk := kN (fun x => h1 x.1)
    refine b248_5 ?_
    try simp only [w_Ug, reduceIte, Nat.reduceEqDiff, Int.reduceEq, eq_self, if_true]
    repeat' (first | apply And.intro | intro)
    all_goals (try first | omega | contradiction | exact Or.inl trivial | exact Or.inr trivial)
theorem s249 {n : Int} {r : Int → Int} {g : Nat → Int} (hs : I 110 = s) (hn : I 104 36 = n) (hb : 0 ≤ n ∧ n ≤ 32) (h1 : ∀ i, 0 ≤ i → i < n → I 126 i = r i ∧ 0 ≤ r i ∧ r i < 30) (h2 : ∀ i : Nat, i < n → I 133 i = g i)
    (k : ∀ I', w_fr p110 I I' → I' 110 = m_setN s r g n.toNat → Q none I' J b) : w_C xs xl 249 [.ref 104] I J b Q := by
  refine e249 (b249_0 ?_)
  have loop : ∀ (m i : Nat) (l1 : Int) (I1 : w_I), (i : Int) + m = n → l1 = i → w_fr p110 I I1 → I1 110 = m_setN s r g i → w_T xs xl 249 2 [some (.ref 104), some (w_i l1)] [] [] I1 J b Q := by
    intro m
    induction m with
    | zero =>
      intro i l1 I1 a0 a1 a2 a3
      have n1 : I1 104 36 = n := by rw [a2 104 36 rfl]; exact hn
      have kk := k I1 a2 (by rw [a3, show n.toNat = i by omega])
      refine b249_2 ?_
      try simp only [w_Ug, reduceIte, Nat.reduceEqDiff, Int.reduceEq, eq_self, n1]
      repeat' (first | apply And.intro | intro)
      all_goals (try first | omega | contradiction | exact Or.inl trivial | exact Or.inr trivial)
    | succ m ih =>
      intro i l1 I1 a0 a1 a2 a3
      have n1 : I1 104 36 = n := by rw [a2 104 36 rfl]; exact hn
      obtain ⟨x1, x2, x3⟩ := h1 l1 (by omega) (by omega)
      have y1 : I1 126 l1 = r l1 := by rw [w_frA a2 (fun _ => rfl)]; exact x1
      have y2 : I1 133 l1 = g i := by rw [w_frA a2 (fun _ => rfl), a1]; exact h2 i (by omega)
      refine b249_2 ?_
      try simp only [w_Ug, reduceIte, Nat.reduceEqDiff, Int.reduceEq, eq_self, n1, y1, y2]
      repeat' (first | apply And.intro | intro)
      all_goals (try first | omega | contradiction | exact Or.inl trivial | exact Or.inr trivial)
      refine ih (i + 1) _ _ (by omega) (by omega) (w_frU a2 rfl) ?_
      rw [w_U1, a3, m_setN_s, a1]
  exact loop n.toNat 0 0 I (by omega) rfl w_frr hs
def m_gL (F : m_F) (s : Int → Int) (n : Int) (r : Int → Int) (i : Nat) : Int := l_at (m_pf F s 1 r) (s 0) n.toNat i
theorem m_gL_up {F : m_F} {n : Int} {r : Int → Int} (h0 : 0 ≤ n) (hn : n ≤ s 0) : g_up (m_gL F s n r) n (s 0) := by
  refine ⟨fun i hi => l_at_b (by omega) (by omega), fun i j h1 h2 => ?_⟩
  have := l_at_mono (pay := m_pf F s 1 r) (H := s 0) (n := n.toNat) (by omega) (j - i - 1) i (by omega)
  rw [show i + (j - i - 1) + 1 = j by omega] at this
  exact this
def pQ (a : Nat) (k : Int) : Bool := a == 110 || pP a k
theorem pP_Q {I I' : w_I} (h : w_fr pP I I') : w_fr pQ I I' := w_frm h (fun a k e => by
  unfold pQ at e
  cases h : pP a k
  · rfl
  · rw [h, Bool.or_true] at e; cases e)
theorem p110_Q {I I' : w_I} (h : w_fr p110 I I') : w_fr pQ I I' := w_frm h (fun a k e => by
  unfold pQ at e
  unfold p110
  cases h : (a == 110)
  · rfl
  · rw [h, Bool.true_or] at e; cases e)
theorem s250 {F : m_F} {c n : Int} {r : Int → Int} (hs : I 110 = s) (hF : m_at I F) (wf : m_wf s) (cd : m_cd F s) (hc : w_in c) (hr : m_cm s c → r_ok n r (m_S s c) (m_rk s (m_kf s (s 1))))
    (kN : ¬ m_cm s c → Q (some (w_i (-1))) I J b) (k1 : m_cm s c → ¬ m_tt s → n ≤ s 0 → ∀ I', w_fr pQ I I' → I' 110 = m_setN s r (m_gL F s n r) n.toNat → Q (some (w_i (m_V F s n r / 1000000))) I' J b) (k0 : m_cm s c → m_tt s ∨ s 0 < n → ∀ I', w_fr pP I I' → Q (some (w_i (-2))) I' J b) : w_C xs xl 250 [.ref 104, w_i c] I J b Q := by
  have w := wf.1
  have w0 := w.1
  refine e250 (b250_0 ?_)
  refine s246 hs w hc (fun h1 => ?_) (fun h1 => ?_)
  · have hr := hr h1
    have n0 := hr.1
    refine b250_5 ?_
    try simp only [w_Ug, reduceIte, Nat.reduceEqDiff, Int.reduceEq, eq_self, if_true]
    repeat' (first | apply And.intro | intro)
    all_goals (try first | omega | contradiction | exact Or.inl trivial | exact Or.inr trivial)
    refine s245 hs hF wf cd h1 hr (fun ht hn I1 fr1 e1 e2 e3 => ?_) (fun h I1 fr1 => ?_)
    · have vb := m_V_b F (r := r) n0 hn (by omega)
      have hs1 : I1 110 = s := (w_frA fr1 (fun _ => rfl)).trans hs
      refine b250_15 ?_
      try simp only [w_Ug, reduceIte, Nat.reduceEqDiff, Int.reduceEq, eq_self, if_true]
      repeat' (first | apply And.intro | intro)
      all_goals (try first | omega | contradiction | exact Or.inl trivial | exact Or.inr trivial)
      refine s249 (g := m_gL F s n r) hs1 e1 (by omega) (fun i x y => ⟨e2 i x y, by
        have := m_S_in h1 _ (hr.2.1 i x y)
        omega⟩) e3 (fun I2 fr2 e4 => ?_)
      have k := k1 h1 ht hn I2 (w_frt (pP_Q fr1) (p110_Q fr2)) e4
      refine b250_30 ?_
      try simp only [w_Ug, reduceIte, Nat.reduceEqDiff, Int.reduceEq, eq_self, if_true]
      repeat' (first | apply And.intro | intro)
      all_goals (try first | omega | contradiction | exact Or.inl trivial | exact Or.inr trivial)
    · have k := k0 h1 h I1 fr1
      refine b250_15 ?_
      try simp only [w_Ug, reduceIte, Nat.reduceEqDiff, Int.reduceEq, eq_self, if_true]
      repeat' (first | apply And.intro | intro)
      all_goals (try first | omega | contradiction | exact Or.inl trivial | exact Or.inr trivial)
  · have kk := kN h1
    refine b250_5 ?_
    try simp only [w_Ug, reduceIte, Nat.reduceEqDiff, Int.reduceEq, eq_self, if_true]
    repeat' (first | apply And.intro | intro)
    all_goals (try first | omega | contradiction | exact Or.inl trivial | exact Or.inr trivial)
end
