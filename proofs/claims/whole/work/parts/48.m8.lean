section
/-! the reference: how many two, and which -/
variable {xs : Nat → Int32} {xl : Nat} {I J : w_I} {b : Bool} {Q : Option Value → w_I → w_I → Bool → Prop}
variable {s : Int → Int}
def u_scan (U : Int → Int → Bool) (H i : Int) : Nat → Int → Int → Int → Int × Int
  | 0, _, _, n => (-1, n)
  | f + 1, a, d, n => if d < H then (if U a d then (if n = i then (100 * a + d, n) else u_scan U H i f a (d + 1) (n + 1)) else u_scan U H i f a (d + 1) n) else if a + 1 < H then u_scan U H i f (a + 1) (a + 2) n else (-1, n)
theorem u_scan_b {U : Int → Int → Bool} {H i : Int} : ∀ (f : Nat) (a d n : Int), n ≤ (u_scan U H i f a d n).2 ∧ (u_scan U H i f a d n).2 ≤ n + f
  | 0, a, d, n => by show n ≤ n ∧ n ≤ n + ((0 : Nat) : Int); omega
  | f + 1, a, d, n => by
    unfold u_scan
    have h1 := u_scan_b (U := U) (H := H) (i := i) f a (d + 1) (n + 1)
    have h2 := u_scan_b (U := U) (H := H) (i := i) f a (d + 1) n
    have h3 := u_scan_b (U := U) (H := H) (i := i) f (a + 1) (a + 2) n
    repeat' split
    all_goals omega
theorem s233 {F : m_F} {U : Int → Int → Bool} {wh t by' : Int} (hs : I 110 = s) (hF : m_at I F) (wf : m_wf s) (cd : m_cd F s) (hwh : 0 ≤ wh ∧ wh ≤ 2) (ht : (wh = 1 → t = 1) ∧ (wh ≠ 1 → t = 0)) (hby : (wh = 2 → by' = 1 - s 3) ∧ (wh ≠ 2 → by' = s 3)) (hU : ∀ a d, 0 ≤ a → a < d → d < s 0 → (U a d = true ↔ m_unl F s t by' a d))
    (k : ∀ I', w_fr pU I I' → Q (some (w_i (u_scan U (s 0) (-1) 700 0 1 0).2)) I' J b) : w_C xs xl 233 [.ref 104, w_i wh] I J b Q := by
  have w0 := wf.1.1
  generalize hR : u_scan U (s 0) (-1) 700 0 1 0 = R at k
  refine e233 (b233_0 ?_)
  have loop : ∀ (f : Nat) (n a d : Int) (I1 : w_I), w_fr pU I I1 → 0 ≤ a → a < s 0 → a < d → d ≤ s 0 → 26 * (s 0 - a) + (s 0 - d) < f → 0 ≤ n → n + f ≤ 700 → R = u_scan U (s 0) (-1) f a d n →
      w_T xs xl 233 19 [some (.ref 104), some (w_i wh), some (w_i n), some (w_i a), some (w_i d)] [] [] I1 J b Q := by
    intro f
    induction f with
    | zero => intro n a d I1 a0 a1 a2 a3 a4 a5; omega
    | succ f ih =>
      intro n a d I1 a0 a1 a2 a3 a4 a5 a6 a7 a8
      have hs1 : I1 110 = s := (w_frA a0 (fun _ => rfl)).trans hs
      have hF1 := m_at_fr hF a0 (fun _ => rfl) (fun _ => rfl) (fun _ => rfl) (fun _ => rfl) (fun _ => rfl) (fun _ => rfl) (fun _ => rfl) (fun _ => rfl)
      unfold u_scan at a8
      by_cases hd : d < s 0
      · rw [if_pos hd] at a8
        refine b233_19 ?_
        try simp only [w_Ug, reduceIte, Nat.reduceEqDiff, Int.reduceEq, eq_self, hs1]
        repeat' (first | apply And.intro | intro)
        all_goals (try first | omega | contradiction | exact Or.inl trivial | exact Or.inr trivial)
        refine s232 hs1 hF1 wf cd ⟨a1, a2⟩ (by omega) hwh ht hby (fun hu I2 fr2 => ?_) (fun hu I2 fr2 => ?_)
        · rw [(hU a d a1 a3 hd).mpr hu, if_pos rfl, if_neg (by omega)] at a8
          refine b233_39 ?_
          try simp only [w_Ug, reduceIte, Nat.reduceEqDiff, Int.reduceEq, eq_self, if_true]
          repeat' (first | apply And.intro | intro)
          all_goals (try first | omega | contradiction | exact Or.inl trivial | exact Or.inr trivial)
          exact ih (n + 1) a (d + 1) I2 (w_frt a0 fr2) a1 a2 (by omega) (by omega) (by omega) (by omega) (by omega) a8
        · have : U a d = false := by
            cases hx : U a d
            · rfl
            · exact absurd ((hU a d a1 a3 hd).mp hx) hu
          rw [this, if_neg (by decide)] at a8
          refine b233_39 ?_
          try simp only [w_Ug, reduceIte, Nat.reduceEqDiff, Int.reduceEq, eq_self, if_true]
          repeat' (first | apply And.intro | intro)
          all_goals (try first | omega | contradiction | exact Or.inl trivial | exact Or.inr trivial)
          rw [Int.add_zero]
          exact ih n a (d + 1) I2 (w_frt a0 fr2) a1 a2 (by omega) (by omega) (by omega) (by omega) (by omega) a8
      · rw [if_neg hd] at a8
        refine b233_19 ?_
        try simp only [w_Ug, reduceIte, Nat.reduceEqDiff, Int.reduceEq, eq_self, hs1]
        repeat' (first | apply And.intro | intro)
        all_goals (try first | omega | contradiction | exact Or.inl trivial | exact Or.inr trivial)
        by_cases ha : a + 1 < s 0
        · rw [if_pos ha] at a8
          refine b233_4 ?_
          try simp only [w_Ug, reduceIte, Nat.reduceEqDiff, Int.reduceEq, eq_self, hs1]
          repeat' (first | apply And.intro | intro)
          all_goals (try first | omega | contradiction | exact Or.inl trivial | exact Or.inr trivial)
          rw [show a + 1 + 1 = a + 2 by omega]
          exact ih n (a + 1) (a + 2) I1 a0 (by omega) ha (by omega) (by omega) (by omega) a6 (by omega) a8
        · rw [if_neg ha] at a8
          have kk := k I1 a0
          rw [a8] at kk
          refine b233_4 ?_
          try simp only [w_Ug, reduceIte, Nat.reduceEqDiff, Int.reduceEq, eq_self, hs1]
          repeat' (first | apply And.intro | intro)
          all_goals (try first | omega | contradiction | exact Or.inl trivial | exact Or.inr trivial)
  by_cases h0 : 0 < s 0
  · refine b233_4 ?_
    try simp only [w_Ug, reduceIte, Nat.reduceEqDiff, Int.reduceEq, eq_self, hs]
    repeat' (first | apply And.intro | intro)
    all_goals (try first | omega | contradiction | exact Or.inl trivial | exact Or.inr trivial)
    exact loop 700 0 0 1 I w_frr (by omega) h0 (by omega) (by omega) (by omega) (by omega) (by omega) hR.symm
  · have kk := k I w_frr
    have : R = (-1, 0) := by
      rw [← hR]
      show (if (1 : Int) < s 0 then _ else if (0 : Int) + 1 < s 0 then _ else _) = _
      rw [if_neg (by omega), if_neg (by omega)]
    rw [this] at kk
    refine b233_4 ?_
    try simp only [w_Ug, reduceIte, Nat.reduceEqDiff, Int.reduceEq, eq_self, hs]
    repeat' (first | apply And.intro | intro)
    all_goals (try first | omega | contradiction | exact Or.inl trivial | exact Or.inr trivial)
theorem s234 {F : m_F} {U : Int → Int → Bool} {wh t by' : Int} (hs : I 110 = s) (hF : m_at I F) (wf : m_wf s) (cd : m_cd F s) (hw : w_in wh) (ht : (wh = 1 → t = 1) ∧ (wh ≠ 1 → t = 0)) (hby : (wh = 2 → by' = 1 - s 3) ∧ (wh ≠ 2 → by' = s 3)) (hU : ∀ a d, 0 ≤ a → a < d → d < s 0 → (U a d = true ↔ m_unl F s t by' a d))
    (k : ∀ I', w_fr pU I I' → Q (some (w_i (if 0 ≤ wh ∧ wh ≤ 2 then (u_scan U (s 0) (-1) 700 0 1 0).2 else -1))) I' J b) : w_C xs xl 234 [.ref 104, w_i wh] I J b Q := by
  refine e234 (b234_0 ?_)
  refine s209 hw (by decide) (by decide) (fun h => ?_) (fun h => ?_)
  · rw [if_pos h] at k
    refine b234_6 ?_
    try simp only [w_Ug, reduceIte, Nat.reduceEqDiff, Int.reduceEq, eq_self, if_true]
    repeat' (first | apply And.intro | intro)
    all_goals (try first | omega | contradiction | exact Or.inl trivial | exact Or.inr trivial)
    exact s233 hs hF wf cd h ht hby hU (fun I' fr => b234_14 (k I' fr))
  · rw [if_neg h] at k
    have k := k I w_frr
    refine b234_6 ?_
    try simp only [w_Ug, reduceIte, Nat.reduceEqDiff, Int.reduceEq, eq_self, if_true]
    repeat' (first | apply And.intro | intro)
    all_goals (try first | omega | contradiction | exact Or.inl trivial | exact Or.inr trivial)
theorem s235 {F : m_F} {U : Int → Int → Bool} {i : Int} (hs : I 110 = s) (hF : m_at I F) (wf : m_wf s) (cd : m_cd F s) (hi : w_in i) (hU : ∀ a d, 0 ≤ a → a < d → d < s 0 → (U a d = true ↔ m_unl F s 0 (s 3) a d))
    (k : ∀ I', w_fr pU I I' → Q (some (w_i (u_scan U (s 0) i 700 0 1 0).1)) I' J b) : w_C xs xl 235 [.ref 104, w_i i] I J b Q := by
  have w0 := wf.1.1
  generalize hR : u_scan U (s 0) i 700 0 1 0 = R at k
  refine e235 (b235_0 ?_)
  have loop : ∀ (f : Nat) (n a d : Int) (I1 : w_I), w_fr pU I I1 → 0 ≤ a → a < s 0 → a < d → d ≤ s 0 → 26 * (s 0 - a) + (s 0 - d) < f → 0 ≤ n → n + f ≤ 700 → R = u_scan U (s 0) i f a d n →
      w_T xs xl 235 19 [some (.ref 104), some (w_i i), some (w_i n), some (w_i a), some (w_i d)] [] [] I1 J b Q := by
    intro f
    induction f with
    | zero => intro n a d I1 a0 a1 a2 a3 a4 a5; omega
    | succ f ih =>
      intro n a d I1 a0 a1 a2 a3 a4 a5 a6 a7 a8
      have hs1 : I1 110 = s := (w_frA a0 (fun _ => rfl)).trans hs
      have hF1 := m_at_fr hF a0 (fun _ => rfl) (fun _ => rfl) (fun _ => rfl) (fun _ => rfl) (fun _ => rfl) (fun _ => rfl) (fun _ => rfl) (fun _ => rfl)
      unfold u_scan at a8
      by_cases hd : d < s 0
      · rw [if_pos hd] at a8
        refine b235_19 ?_
        try simp only [w_Ug, reduceIte, Nat.reduceEqDiff, Int.reduceEq, eq_self, hs1]
        repeat' (first | apply And.intro | intro)
        all_goals (try first | omega | contradiction | exact Or.inl trivial | exact Or.inr trivial)
        refine s232 (t := 0) (by' := s 3) hs1 hF1 wf cd ⟨a1, a2⟩ (by omega) (by omega) (by omega) (by omega) (fun hu I2 fr2 => ?_) (fun hu I2 fr2 => ?_)
        · rw [(hU a d a1 a3 hd).mpr hu, if_pos rfl] at a8
          by_cases hn : n = i
          · rw [if_pos hn] at a8
            have kk := k I2 (w_frt a0 fr2)
            rw [a8] at kk
            refine b235_38 ?_
            try simp only [w_Ug, reduceIte, Nat.reduceEqDiff, Int.reduceEq, eq_self, if_true]
            repeat' (first | apply And.intro | intro)
            all_goals (try first | omega | contradiction | exact Or.inl trivial | exact Or.inr trivial)
          · rw [if_neg hn] at a8
            refine b235_38 ?_
            try simp only [w_Ug, reduceIte, Nat.reduceEqDiff, Int.reduceEq, eq_self, if_true]
            repeat' (first | apply And.intro | intro)
            all_goals (try first | omega | contradiction | exact Or.inl trivial | exact Or.inr trivial)
            exact ih (n + 1) a (d + 1) I2 (w_frt a0 fr2) a1 a2 (by omega) (by omega) (by omega) (by omega) (by omega) a8
        · have : U a d = false := by
            cases hx : U a d
            · rfl
            · exact absurd ((hU a d a1 a3 hd).mp hx) hu
          rw [this, if_neg (by decide)] at a8
          refine b235_38 ?_
          try simp only [w_Ug, reduceIte, Nat.reduceEqDiff, Int.reduceEq, eq_self, if_true]
          repeat' (first | apply And.intro | intro)
          all_goals (try first | omega | contradiction | exact Or.inl trivial | exact Or.inr trivial)
          exact ih n a (d + 1) I2 (w_frt a0 fr2) a1 a2 (by omega) (by omega) (by omega) (by omega) (by omega) a8
      · rw [if_neg hd] at a8
        refine b235_19 ?_
        try simp only [w_Ug, reduceIte, Nat.reduceEqDiff, Int.reduceEq, eq_self, hs1]
        repeat' (first | apply And.intro | intro)
        all_goals (try first | omega | contradiction | exact Or.inl trivial | exact Or.inr trivial)
        by_cases ha : a + 1 < s 0
        · rw [if_pos ha] at a8
          refine b235_4 ?_
          try simp only [w_Ug, reduceIte, Nat.reduceEqDiff, Int.reduceEq, eq_self, hs1]
          repeat' (first | apply And.intro | intro)
          all_goals (try first | omega | contradiction | exact Or.inl trivial | exact Or.inr trivial)
          rw [show a + 1 + 1 = a + 2 by omega]
          exact ih n (a + 1) (a + 2) I1 a0 (by omega) ha (by omega) (by omega) (by omega) a6 (by omega) a8
        · rw [if_neg ha] at a8
          have kk := k I1 a0
          rw [a8] at kk
          refine b235_4 ?_
          try simp only [w_Ug, reduceIte, Nat.reduceEqDiff, Int.reduceEq, eq_self, hs1]
          repeat' (first | apply And.intro | intro)
          all_goals (try first | omega | contradiction | exact Or.inl trivial | exact Or.inr trivial)
  by_cases h0 : 0 < s 0
  · refine b235_4 ?_
    try simp only [w_Ug, reduceIte, Nat.reduceEqDiff, Int.reduceEq, eq_self, hs]
    repeat' (first | apply And.intro | intro)
    all_goals (try first | omega | contradiction | exact Or.inl trivial | exact Or.inr trivial)
    exact loop 700 0 0 1 I w_frr (by omega) h0 (by omega) (by omega) (by omega) (by omega) (by omega) hR.symm
  · have kk := k I w_frr
    have : R = (-1, 0) := by
      rw [← hR]
      show (if (1 : Int) < s 0 then _ else if (0 : Int) + 1 < s 0 then _ else _) = _
      rw [if_neg (by omega), if_neg (by omega)]
    rw [this] at kk
    refine b235_4 ?_
    try simp only [w_Ug, reduceIte, Nat.reduceEqDiff, Int.reduceEq, eq_self, hs]
    repeat' (first | apply And.intro | intro)
    all_goals (try first | omega | contradiction | exact Or.inl trivial | exact Or.inr trivial)
end
