section
/-! formulas: the reference's literals, rules, laws -/
variable {xs : Nat → Int32} {xl : Nat} {I J : w_I} {b : Bool} {Q : Option Value → w_I → w_I → Bool → Prop}
variable {s : Int → Int}
theorem s204 (k : ∀ I', (∀ a, a ≠ 124 → I' a = I a) → (∀ i, 0 ≤ i → i < 10 → I' 124 i = 0) → Q none I' J b) : w_C xs xl 204 [.ref 104] I J b Q := by
  refine e204 (b204_0 ?_)
  have loop : ∀ (m : Nat) (l : Int) (I1 : w_I), l + m = 10 → 0 ≤ l → (∀ a, a ≠ 124 → I1 a = I a) → (∀ i, 0 ≤ i → i < l → I1 124 i = 0) → w_T xs xl 204 2 [some (.ref 104), some (w_i l)] [] [] I1 J b Q := by
    intro m
    induction m with
    | zero =>
      intro l I1 h0 h1 h2 h3
      refine b204_2 ?_
      try simp only [w_Ug, reduceIte, Nat.reduceEqDiff, Int.reduceEq, eq_self, if_true]
      repeat' (first | apply And.intro | intro)
      all_goals (try first | omega | contradiction | exact Or.inl trivial | exact Or.inr trivial)
      exact k I1 h2 (fun i a1 a2 => h3 i a1 (by omega))
    | succ m ih =>
      intro l I1 h0 h1 h2 h3
      refine b204_2 ?_
      try simp only [w_Ug, reduceIte, Nat.reduceEqDiff, Int.reduceEq, eq_self, if_true]
      repeat' (first | apply And.intro | intro)
      all_goals (try first | omega | contradiction | exact Or.inl trivial | exact Or.inr trivial)
      refine ih (l + 1) _ (by omega) (by omega) (fun a ha => by rw [w_Ua ha]; exact h2 a ha) (fun i a1 a2 => ?_)
      rw [w_Ug, if_pos rfl]
      split
      · rfl
      · exact h3 i a1 (by omega)
  exact loop 10 0 I (by omega) (by omega) (fun _ _ => rfl) (fun i a1 a2 => by omega)
def m_cmpv (o x y : Int) : Bool := if o = 300 then decide (x = y) else if o = 301 then decide (x ≠ y) else if o = 302 then decide (x ≤ y) else decide (x < y)
/-- the reference's code of literals: a piece of the heap -/
abbrev m_F : Type := (Int → Int) × (Int → Int) × (Int → Int) × (Int → Int) × (Int → Int) × (Int → Int) × (Int → Int) × (Int → Int)
-- op, va, not, cmp, la, lb, lc, row
abbrev m_fc (F : m_F) : Int → Int := m_c F.1 F.2.1
abbrev m_ln (F : m_F) : Int → Int := F.2.2.1
abbrev m_lo (F : m_F) : Int → Int := F.2.2.2.1
abbrev m_la (F : m_F) : Int → Int := F.2.2.2.2.1
abbrev m_lb (F : m_F) : Int → Int := F.2.2.2.2.2.1
abbrev m_lc (F : m_F) : Int → Int := F.2.2.2.2.2.2.1
abbrev m_lr (F : m_F) : Int → Int := F.2.2.2.2.2.2.2
def m_at (I : w_I) (F : m_F) : Prop := I 112 = F.1 ∧ I 113 = F.2.1 ∧ I 115 = m_ln F ∧ I 116 = m_lo F ∧ I 117 = m_la F ∧ I 118 = m_lb F ∧ I 119 = m_lc F ∧ I 120 = m_lr F
theorem m_at_fr {p : Nat → Int → Bool} {F : m_F} {I' : w_I} (h : m_at I F) (hf : w_fr p I I') (h1 : ∀ k, p 112 k = false) (h2 : ∀ k, p 113 k = false) (h3 : ∀ k, p 115 k = false) (h4 : ∀ k, p 116 k = false) (h5 : ∀ k, p 117 k = false) (h6 : ∀ k, p 118 k = false) (h7 : ∀ k, p 119 k = false) (h8 : ∀ k, p 120 k = false) : m_at I' F :=
  ⟨(w_frA hf h1).trans h.1, (w_frA hf h2).trans h.2.1, (w_frA hf h3).trans h.2.2.1, (w_frA hf h4).trans h.2.2.2.1, (w_frA hf h5).trans h.2.2.2.2.1, (w_frA hf h6).trans h.2.2.2.2.2.1, (w_frA hf h7).trans h.2.2.2.2.2.2.1, (w_frA hf h8).trans h.2.2.2.2.2.2.2⟩
/-- a sound piece of code from a to b -/
def m_seg (F : m_F) (a b : Int) : Prop := 0 ≤ a ∧ a ≤ b ∧ b ≤ 500 ∧ (∀ k, a ≤ k → k < b → o_ok F.1 F.2.1 k) ∧ f_ok (m_fc F) (b - a).toNat a 0
def m_lok (F : m_F) (k : Int) : Prop := (m_ln F k = 0 ∨ m_ln F k = 1) ∧ (m_lo F k = 300 ∨ m_lo F k = 301 ∨ m_lo F k = 302 ∨ m_lo F k = 60) ∧ m_seg F (m_la F k) (m_lb F k) ∧ m_seg F (m_lb F k) (m_lc F k)
/-- does a literal hold; is it so with its nots -/
def m_litv (F : m_F) (vars : Int → Int) (k : Int) : Bool := match f_ev (m_fc F) vars (m_lb F k - m_la F k).toNat (m_la F k) [], f_ev (m_fc F) vars (m_lc F k - m_lb F k).toNat (m_lb F k) [] with
  | some [x], some [y] => m_cmpv (m_lo F k) x y != decide (m_ln F k = 1)
  | _, _ => decide (m_ln F k = 1)
theorem s206 {F : m_F} {vars : Int → Int} {k : Int} (hF : m_at I F) (h124 : I 124 = vars) (hk : 0 ≤ k ∧ k < 800) (hl : m_lok F k) (hv : ∀ i, 0 ≤ i → i < 10 → w_in (vars i))
    (k1 : m_litv F vars k = true → ∀ I', w_fr p205 I I' → Q (some (w_i 1)) I' J b) (k0 : m_litv F vars k = false → ∀ I', w_fr p205 I I' → Q (some (w_i 0)) I' J b) : w_C xs xl 206 [.ref 104, w_i k] I J b Q := by
  obtain ⟨f1, f2, f3, f4, f5, f6, f7, f8⟩ := hF
  have hF : m_at I F := ⟨f1, f2, f3, f4, f5, f6, f7, f8⟩
  obtain ⟨ln, lo, A, B⟩ := hl
  unfold m_litv at k1 k0
  refine e206 ?_
  refine b206_0 ?_
  try simp only [w_Ug, reduceIte, Nat.reduceEqDiff, Int.reduceEq, eq_self, f5, f6]
  repeat' (first | apply And.intro | intro)
  all_goals (try first | omega | contradiction | exact Or.inl trivial | exact Or.inr trivial)
  refine s205 f1 f2 h124 ⟨A.1, A.2.1, A.2.2.1⟩ A.2.2.2.1 A.2.2.2.2 hv (fun x ex hx I1 fr1 b1 => ?_) (fun ex I1 fr1 b1 => ?_)
  · have hF1 := m_at_fr hF fr1 (fun _ => rfl) (fun _ => rfl) (fun _ => rfl) (fun _ => rfl) (fun _ => rfl) (fun _ => rfl) (fun _ => rfl) (fun _ => rfl)
    obtain ⟨g1, g2, g3, g4, g5, g6, g7, g8⟩ := hF1
    have g124 : I1 124 = vars := (w_frA fr1 (fun _ => rfl)).trans h124
    refine b206_16 ?_
    try simp only [w_Ug, reduceIte, Nat.reduceEqDiff, Int.reduceEq, eq_self, b1, g6, g7]
    repeat' (first | apply And.intro | intro)
    all_goals (try first | omega | contradiction | exact Or.inl trivial | exact Or.inr trivial)
    refine s205 g1 g2 g124 ⟨B.1, B.2.1, B.2.2.1⟩ B.2.2.2.1 B.2.2.2.2 hv (fun y ey hy I2 fr2 b2 => ?_) (fun ey I2 fr2 b2 => ?_)
    · have fr := w_frt fr1 fr2
      have q3 : I2 115 = m_ln F := (w_frA fr (fun _ => rfl)).trans f3
      have q4 : I2 116 = m_lo F := (w_frA fr (fun _ => rfl)).trans f4
      unfold m_fc at k1 k0
      rw [ex, ey] at k1 k0
      unfold m_cmpv at k1 k0
      dsimp only at k1 k0
      refine b206_47 ?_
      try simp only [w_Ug, reduceIte, Nat.reduceEqDiff, Int.reduceEq, eq_self, b2, q3, q4]
      repeat' (first | apply And.intro | intro)
      all_goals (try first | omega | contradiction | exact Or.inl trivial | exact Or.inr trivial)
      all_goals first
        | exact k1 (by simp (disch := omega) only [if_neg, if_pos, if_true, decide_eq_true, decide_eq_false, decide_true, decide_false] <;> first | rfl | decide) _ fr
        | exact k0 (by simp (disch := omega) only [if_neg, if_pos, if_true, decide_eq_true, decide_eq_false, decide_true, decide_false] <;> first | rfl | decide) _ fr
    · have fr := w_frt fr1 fr2
      have q3 : I2 115 = m_ln F := (w_frA fr (fun _ => rfl)).trans f3
      unfold m_fc at k1 k0
      rw [ex, ey] at k1 k0
      dsimp only at k1 k0
      rcases ln with e | e
      · have := k0 (by rw [e]; rfl) I2 fr
        refine b206_47 ?_
        try simp only [w_Ug, reduceIte, Nat.reduceEqDiff, Int.reduceEq, eq_self, b2, q3, e]
        repeat' (first | apply And.intro | intro)
        all_goals (try first | omega | contradiction | exact Or.inl trivial | exact Or.inr trivial)
      · have := k1 (by rw [e]; rfl) I2 fr
        refine b206_47 ?_
        try simp only [w_Ug, reduceIte, Nat.reduceEqDiff, Int.reduceEq, eq_self, b2, q3, e]
        repeat' (first | apply And.intro | intro)
        all_goals (try first | omega | contradiction | exact Or.inl trivial | exact Or.inr trivial)
  · have q3 : I1 115 = m_ln F := (w_frA fr1 (fun _ => rfl)).trans f3
    unfold m_fc at k1 k0
    rw [ex] at k1 k0
    dsimp only at k1 k0
    rcases ln with e | e
    · have := k0 (by rw [e]; rfl) I1 fr1
      refine b206_16 ?_
      try simp only [w_Ug, reduceIte, Nat.reduceEqDiff, Int.reduceEq, eq_self, b1, q3, e]
      repeat' (first | apply And.intro | intro)
      all_goals (try first | omega | contradiction | exact Or.inl trivial | exact Or.inr trivial)
    · have := k1 (by rw [e]; rfl) I1 fr1
      refine b206_16 ?_
      try simp only [w_Ug, reduceIte, Nat.reduceEqDiff, Int.reduceEq, eq_self, b1, q3, e]
      repeat' (first | apply And.intro | intro)
      all_goals (try first | omega | contradiction | exact Or.inl trivial | exact Or.inr trivial)
/-- does a rule hold: its literals from k on, in the row given, all so far -/
def m_h (lit : Int → Bool) (lr : Int → Int) : Nat → Int → Int → Bool → Bool
  | 0, _, _, all => all
  | n + 1, k, row, all => if lr k = row then m_h lit lr n (k + 1) row (all && lit k) else (all || m_h lit lr n (k + 1) (lr k) (lit k))
def m_rulev (F : m_F) (vars : Int → Int) (a b : Int) : Bool := if a < b then m_h (m_litv F vars) (m_lr F) (b - a).toNat a (m_lr F a) true else false
theorem s207 {F : m_F} {vars : Int → Int} {a e : Int} (hF : m_at I F) (h124 : I 124 = vars) (hk : 0 ≤ a ∧ a ≤ e ∧ e ≤ 800) (hl : ∀ k, a ≤ k → k < e → m_lok F k ∧ w_in (m_lr F k)) (hv : ∀ i, 0 ≤ i → i < 10 → w_in (vars i))
    (k1 : m_rulev F vars a e = true → ∀ I', w_fr p205 I I' → Q (some (w_i 1)) I' J b) (k0 : m_rulev F vars a e = false → ∀ I', w_fr p205 I I' → Q (some (w_i 0)) I' J b) : w_C xs xl 207 [.ref 104, w_i a, w_i e] I J b Q := by
  generalize hR : m_rulev F vars a e = R at k1 k0
  have loop : ∀ (n : Nat) (l3 l4 l5 : Int) (u1 : Option Value) (all : Bool) (I1 : w_I), l3 + n = e → a ≤ l3 → w_in l4 → l5 = (if all then 1 else 0) → w_fr p205 I I1 → R = m_h (m_litv F vars) (m_lr F) n l3 l4 all →
      w_T xs xl 207 18 [some (.ref 104), u1, some (w_i e), some (w_i l3), some (w_i l4), some (w_i l5)] [] [] I1 J b Q := by
    intro n
    induction n with
    | zero =>
      intro l3 l4 l5 u1 all I1 a0 a1 a2 a3 a4 a5
      have a5' : R = all := a5
      cases all with
      | true =>
        have kk := k1 a5' I1 a4
        simp only [if_true] at a3
        refine b207_18 ?_
        try simp only [w_Ug, reduceIte, Nat.reduceEqDiff, Int.reduceEq, eq_self, if_true]
        repeat' (first | apply And.intro | intro)
        all_goals (try first | omega | contradiction | exact Or.inl trivial | exact Or.inr trivial)
      | false =>
        have kk := k0 a5' I1 a4
        rw [if_neg (by decide)] at a3
        refine b207_18 ?_
        try simp only [w_Ug, reduceIte, Nat.reduceEqDiff, Int.reduceEq, eq_self, if_true]
        repeat' (first | apply And.intro | intro)
        all_goals (try first | omega | contradiction | exact Or.inl trivial | exact Or.inr trivial)
        refine b207_2 ?_
        try simp only [w_Ug, reduceIte, Nat.reduceEqDiff, Int.reduceEq, eq_self, if_true]
        repeat' (first | apply And.intro | intro)
        all_goals (try first | omega | contradiction | exact Or.inl trivial | exact Or.inr trivial)
    | succ n ih =>
      intro l3 l4 l5 u1 all I1 a0 a1 a2 a3 a4 a5
      have hF1 := m_at_fr hF a4 (fun _ => rfl) (fun _ => rfl) (fun _ => rfl) (fun _ => rfl) (fun _ => rfl) (fun _ => rfl) (fun _ => rfl) (fun _ => rfl)
      have g8 := hF1.2.2.2.2.2.2.2
      have g124 : I1 124 = vars := (w_frA a4 (fun _ => rfl)).trans h124
      obtain ⟨lk, lrk⟩ := hl l3 a1 (by omega)
      -- a literal of the row that stands: go on
      have step : ∀ (l4 l5 : Int) (u1 : Option Value) (all : Bool), m_lr F l3 = l4 → l5 = (if all then 1 else 0) → R = m_h (m_litv F vars) (m_lr F) n (l3 + 1) l4 (all && m_litv F vars l3) → w_T xs xl 207 18 [some (.ref 104), u1, some (w_i e), some (w_i l3), some (w_i l4), some (w_i l5)] [] [] I1 J b Q := by
        intro l4 l5 u1 all er e5 eR
        cases all with
        | true =>
          simp only [if_true] at e5
          rw [Bool.true_and] at eR
          refine b207_18 ?_
          try simp only [w_Ug, reduceIte, Nat.reduceEqDiff, Int.reduceEq, eq_self, g8]
          repeat' (first | apply And.intro | intro)
          all_goals (try first | omega | contradiction | exact Or.inl trivial | exact Or.inr trivial)
          refine s206 hF1 g124 (by omega) lk hv (fun hv1 I2 fr2 => b207_44 ?_) (fun hv1 I2 fr2 => b207_44 ?_)
          · rw [hv1] at eR
            exact ih (l3 + 1) l4 1 _ true I2 (by omega) (by omega) (by omega) rfl (w_frt a4 fr2) eR
          · rw [hv1] at eR
            exact ih (l3 + 1) l4 0 _ false I2 (by omega) (by omega) (by omega) rfl (w_frt a4 fr2) eR
        | false =>
          rw [if_neg (by decide)] at e5
          rw [Bool.false_and] at eR
          refine b207_18 ?_
          try simp only [w_Ug, reduceIte, Nat.reduceEqDiff, Int.reduceEq, eq_self, g8]
          repeat' (first | apply And.intro | intro)
          all_goals (try first | omega | contradiction | exact Or.inl trivial | exact Or.inr trivial)
          exact ih (l3 + 1) l4 l5 _ false I1 (by omega) (by omega) (by omega) (by rw [if_neg (by decide)]; exact e5) a4 eR
      unfold m_h at a5
      by_cases er : m_lr F l3 = l4
      · rw [if_pos er] at a5
        exact step l4 l5 u1 all er a3 a5
      · rw [if_neg er] at a5
        cases all with
        | true =>
          simp only [if_true] at a3
          rw [Bool.true_or] at a5
          have kk := k1 a5 I1 a4
          refine b207_18 ?_
          try simp only [w_Ug, reduceIte, Nat.reduceEqDiff, Int.reduceEq, eq_self, g8]
          repeat' (first | apply And.intro | intro)
          all_goals (try first | omega | contradiction | exact Or.inl trivial | exact Or.inr trivial)
        | false =>
          rw [if_neg (by decide)] at a3
          rw [Bool.false_or] at a5
          refine b207_18 ?_
          try simp only [w_Ug, reduceIte, Nat.reduceEqDiff, Int.reduceEq, eq_self, g8]
          repeat' (first | apply And.intro | intro)
          all_goals (try first | omega | contradiction | exact Or.inl trivial | exact Or.inr trivial)
          refine b207_2 ?_
          try simp only [w_Ug, reduceIte, Nat.reduceEqDiff, Int.reduceEq, eq_self, g8]
          repeat' (first | apply And.intro | intro)
          all_goals (try first | omega | contradiction | exact Or.inl trivial | exact Or.inr trivial)
          exact step (m_lr F l3) 1 _ true rfl rfl (by rw [Bool.true_and]; exact a5)
  refine e207 (b207_0 ?_)
  have g8 := hF.2.2.2.2.2.2.2
  by_cases h : a < e
  · unfold m_rulev at hR
    rw [if_pos h] at hR
    refine b207_2 ?_
    try simp only [w_Ug, reduceIte, Nat.reduceEqDiff, Int.reduceEq, eq_self, g8]
    repeat' (first | apply And.intro | intro)
    all_goals (try first | omega | contradiction | exact Or.inl trivial | exact Or.inr trivial)
    exact loop (e - a).toNat a (m_lr F a) 1 _ true I (by omega) (Int.le_refl _) (hl a (Int.le_refl _) h).2 rfl w_frr hR.symm
  · unfold m_rulev at hR
    rw [if_neg h] at hR
    have kk := k0 hR.symm I w_frr
    refine b207_2 ?_
    try simp only [w_Ug, reduceIte, Nat.reduceEqDiff, Int.reduceEq, eq_self, g8]
    repeat' (first | apply And.intro | intro)
    all_goals (try first | omega | contradiction | exact Or.inl trivial | exact Or.inr trivial)
/-- what a law says -/
def m_lawv (F : m_F) (s vars : Int → Int) (w oth : Int) : Int := if s (11 + 2 * w) < 0 then oth else (match f_ev (m_fc F) vars (s (11 + 2 * w + 1) - s (11 + 2 * w)).toNat (s (11 + 2 * w)) [] with
  | some [v] => v
  | _ => 0)
def m_clamp (v most : Int) : Int := if v < 0 then 0 else if most < v then most else v
theorem m_clamp_c (v most : Int) : (v < 0 → m_clamp v most = 0) ∧ (0 ≤ v → v ≤ most → m_clamp v most = v) ∧ (0 ≤ v → most < v → m_clamp v most = most) := by
  unfold m_clamp
  refine ⟨fun h => if_pos h, fun h g => ?_, fun h g => ?_⟩
  · rw [if_neg (by omega), if_neg (by omega)]
  · rw [if_neg (by omega), if_pos g]
theorem s208 {F : m_F} {vars : Int → Int} {w oth most : Int} (hs : I 110 = s) (hF : m_at I F) (h124 : I 124 = vars) (hw : 0 ≤ w ∧ w < 4) (ho : w_in oth) (hm : 0 ≤ most ∧ most < 10000) (hl : s (11 + 2 * w) = -1 ∨ (0 ≤ s (11 + 2 * w) ∧ m_seg F (s (11 + 2 * w)) (s (11 + 2 * w + 1)))) (hv : ∀ i, 0 ≤ i → i < 10 → w_in (vars i))
    (k : ∀ I', w_fr p205 I I' → Q (some (w_i (m_clamp (m_lawv F s vars w oth) most))) I' J b) : w_C xs xl 208 [.ref 104, w_i w, w_i oth, w_i most] I J b Q := by
  refine e208 ?_
  rcases hl with h | ⟨h, A⟩
  · have hv : m_lawv F s vars w oth = oth := by unfold m_lawv; rw [if_pos (by omega)]
    rw [hv] at k
    obtain ⟨c1, c2, c3⟩ := m_clamp_c oth most
    have k := k I w_frr
    refine b208_0 ?_
    try simp only [w_Ug, reduceIte, Nat.reduceEqDiff, Int.reduceEq, eq_self, hs]
    repeat' (first | apply And.intro | intro)
    all_goals (try first | omega | contradiction | exact Or.inl trivial | exact Or.inr trivial)
    · rw [c2 (by omega) (by omega)] at k; exact k
    · rw [c3 (by omega) (by omega)] at k; exact k
    · rw [c1 (by omega)] at k; exact k
  · have A1 := A.1
    have A2 := A.2.1
    have A3 := A.2.2.1
    refine b208_0 ?_
    try simp only [w_Ug, reduceIte, Nat.reduceEqDiff, Int.reduceEq, eq_self, hs]
    repeat' (first | apply And.intro | intro)
    all_goals (try first | omega | contradiction | exact Or.inl trivial | exact Or.inr trivial)
    refine s205 hF.1 hF.2.1 h124 ⟨A.1, A.2.1, A.2.2.1⟩ A.2.2.2.1 A.2.2.2.2 hv (fun v ev hv I1 fr1 _ => ?_) (fun ev I1 fr1 _ => ?_)
    · have hv : m_lawv F s vars w oth = v := by unfold m_lawv m_fc; rw [if_neg (by omega), ev]
      rw [hv] at k
      obtain ⟨c1, c2, c3⟩ := m_clamp_c v most
      have k := k I1 fr1
      refine b208_46 ?_
      try simp only [w_Ug, reduceIte, Nat.reduceEqDiff, Int.reduceEq, eq_self, hs]
      repeat' (first | apply And.intro | intro)
      all_goals (try first | omega | contradiction | exact Or.inl trivial | exact Or.inr trivial)
      · rw [c2 (by omega) (by omega)] at k; exact k
      · rw [c3 (by omega) (by omega)] at k; exact k
      · rw [c1 (by omega)] at k; exact k
    · have hv : m_lawv F s vars w oth = 0 := by unfold m_lawv m_fc; rw [if_neg (by omega), ev]
      rw [hv] at k
      obtain ⟨c1, c2, c3⟩ := m_clamp_c 0 most
      have k := k I1 fr1
      rw [c2 (by omega) (by omega)] at k
      refine b208_46 ?_
      try simp only [w_Ug, reduceIte, Nat.reduceEqDiff, Int.reduceEq, eq_self, hs]
      repeat' (first | apply And.intro | intro)
      all_goals (try first | omega | contradiction | exact Or.inl trivial | exact Or.inr trivial)
end
