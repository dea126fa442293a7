section
/-! calls: waits -/
variable {xs : Nat → Int32} {xl : Nat} {I J : w_I} {b : Bool} {Q : Option Value → w_I → w_I → Bool → Prop}
variable {s : Int → Int}
/-- the person of the least number of a family -/
def m_fp (s : Int → Int) (f : Int) : Nat → Int
  | 0 => -1
  | n + 1 => if 0 ≤ m_fp s f n then m_fp s f n else if s (100 + 6 * n) = 1 ∧ s (100 + 6 * n + 5) = f then n else -1
abbrev m_of (s : Int → Int) (f p : Int) : Prop := s (100 + 6 * p) = 1 ∧ s (100 + 6 * p + 5) = f
theorem m_fp_or {f : Int} : ∀ n : Nat, (m_fp s f n = -1 ∧ ∀ p : Int, 0 ≤ p → p < n → ¬ m_of s f p) ∨ (0 ≤ m_fp s f n ∧ m_fp s f n < n ∧ m_of s f (m_fp s f n) ∧ ∀ p : Int, 0 ≤ p → p < m_fp s f n → ¬ m_of s f p)
  | 0 => Or.inl ⟨rfl, fun p h0 h1 => by omega⟩
  | n + 1 => by
    have e : m_fp s f (n + 1) = if 0 ≤ m_fp s f n then m_fp s f n else if s (100 + 6 * n) = 1 ∧ s (100 + 6 * n + 5) = f then (n : Int) else -1 := rfl
    have ih := m_fp_or (f := f) n
    rcases ih with ⟨h1, h2⟩ | ⟨h1, h2, h3, h4⟩
    · have h1' : m_fp s f n = -1 := h1
      rw [e, if_neg (by omega)]
      by_cases c : s (100 + 6 * (n : Int)) = 1 ∧ s (100 + 6 * (n : Int) + 5) = f
      · rw [if_pos c]
        exact Or.inr ⟨by omega, by omega, c, h2⟩
      · rw [if_neg c]
        refine Or.inl ⟨rfl, fun p x y => ?_⟩
        by_cases z : p = n
        · subst z; exact c
        · exact h2 p x (by omega)
    · rw [e, if_pos h1]
      exact Or.inr ⟨h1, by omega, h3, h4⟩
abbrev m_f1 (s : Int → Int) (f : Int) : Int := m_fp s f (s 7).toNat
theorem m_f1_is (wf : m_wf s) {f : Int} (hf : m_isF s f) : (0 ≤ m_f1 s f ∧ m_f1 s f < s 7) ∧ m_of s f (m_f1 s f) ∧ ∀ p, 0 ≤ p → p < m_f1 s f → ¬ m_of s f p := by
  have w0 := wf.1.1
  rcases m_fp_or (s := s) (f := f) (s 7).toNat with ⟨h1, h2⟩ | ⟨h1, h2, h3, h4⟩
  all_goals unfold m_f1
  · have z := (wf.2.2.1 f hf).1
    have z0 := (m_sz_z s f (-1)).mpr (fun p x y hin => by
      have wp := wf.1.2.2.1 p x y
      refine h2 p x (by omega) ⟨hin.1, ?_⟩
      have := hin.2
      omega)
    omega
  · exact ⟨⟨h1, by omega⟩, h3, h4⟩
def m_sv (F : m_F) (s : Int → Int) (p : Int) : Nat → Int
  | 0 => 1
  | y + 1 => m_sv F s p y * (100 - m_dieb F s (m_pa s p 0 + y) (s (100 + 6 * p + 3)))
def m_hp : Nat → Int
  | 0 => 1
  | y + 1 => m_hp y * 100
theorem m_dieb_b {F : m_F} {a l : Int} : 0 ≤ m_dieb F s a l ∧ m_dieb F s a l ≤ 100 := by
  unfold m_dieb
  exact m_clamp_b _ (by decide)
abbrev m_wok (s : Int → Int) (f n : Int) : Prop := m_isF s f ∧ (1 ≤ n ∧ n ≤ 8) ∧ 0 ≤ s (460 + 3 * f + 2)
def m_waits (F : m_F) (s : Int → Int) (f n : Int) : Int := if m_wok s f n then (if m_dw s (s (460 + 3 * f + 2)) < 0 ∨ m_dw s (s (460 + 3 * f + 2)) = f then -2 else m_hp n.toNat - m_sv F s (m_f1 s (m_dw s (s (460 + 3 * f + 2)))) n.toNat) else -1
theorem s273 {F : m_F} {f n : Int} (hs : I 110 = s) (hF : m_at I F) (wf : m_wf s) (cd : m_cd F s) (hf : w_in f) (hn : w_in n)
    (k : ∀ I', w_fr pJ I I' → Q (some (w_l (m_waits F s f n))) I' J b) : w_C xs xl 273 [.ref 104, w_i f, w_i n] I J b Q := by
  have w := wf.1
  have w0 := w.1
  unfold m_waits at k
  refine e273 (b273_0 ?_)
  refine s211 hs w hf (fun h1 => ?_) (fun h1 => ?_)
  · have h11 := h1.1
    have h12 := h1.2.1
    have w3 := w.2.2.2.1 f h11 h12
    refine b273_5 ?_
    try simp only [w_Ug, reduceIte, Nat.reduceEqDiff, Int.reduceEq, eq_self, if_true]
    repeat' (first | apply And.intro | intro)
    all_goals (try first | omega | contradiction | exact Or.inl trivial | exact Or.inr trivial)
    refine s209 hn (by decide) (by decide) (fun h2 => ?_) (fun h2 => ?_)
    · by_cases h3 : 0 ≤ s (460 + 3 * f + 2)
      · rw [if_pos ⟨h1, h2, h3⟩] at k
        refine b273_15 ?_
        try simp only [w_Ug, reduceIte, Nat.reduceEqDiff, Int.reduceEq, eq_self, hs]
        repeat' (first | apply And.intro | intro)
        all_goals (try first | omega | contradiction | exact Or.inl trivial | exact Or.inr trivial)
        refine s214 hs w (by omega) (fun g hg eg => ?_) (fun em => ?_)
        · have dw := m_dw_f wf hg eg h3
          rw [dw] at k
          have g1 := hg.1
          have g2 := hg.2.1
          by_cases h4 : g = f
          · rw [if_pos (Or.inr h4)] at k
            have kk := k I w_frr
            refine b273_57 ?_
            try simp only [w_Ug, reduceIte, Nat.reduceEqDiff, Int.reduceEq, eq_self, if_true]
            repeat' (first | apply And.intro | intro)
            all_goals (try first | omega | contradiction | exact Or.inl trivial | exact Or.inr trivial)
          · rw [if_neg (fun z => z.elim (fun z => by omega) h4)] at k
            refine b273_57 ?_
            try simp only [w_Ug, reduceIte, Nat.reduceEqDiff, Int.reduceEq, eq_self, if_true]
            repeat' (first | apply And.intro | intro)
            all_goals (try first | omega | contradiction | exact Or.inl trivial | exact Or.inr trivial)
            obtain ⟨f1b, f1o, f1n⟩ := m_f1_is wf hg
            generalize m_f1 s g = p at f1b f1o f1n k
            have wp := w.2.2.1 p f1b.1 f1b.2
            have pab := m_pa_b (t := 0) w (p := p) f1b
            have years : ∀ (m y : Nat) (u1 u3 u6 u8 : Option Value) (m0 m1 m2 m3 m4 m6 m8 m9 : Option Int64) (I1 : w_I), (y : Int) + m = n → w_fr pJ I I1 → w_T xs xl 273 117 [some (.ref 104), u1, some (w_i n), u3, some (w_i p), none, u6, none, u8, some (w_i y)] [m0, m1, m2, m3, m4, some (Int64.ofInt (m_hp y)), m6, some (Int64.ofInt (m_sv F s p y)), m8, m9] [] I1 J b Q := by
              intro m
              induction m with
              | zero =>
                intro y u1 u3 u6 u8 m0 m1 m2 m3 m4 m6 m8 m9 I1 a0 a1
                have kk := k I1 a1
                rw [show n.toNat = y by omega] at kk
                refine b273_117 ?_
                try simp only [w_Ug, reduceIte, Nat.reduceEqDiff, Int.reduceEq, eq_self, if_true]
                repeat' (first | apply And.intro | intro)
                all_goals (try first | omega | contradiction | exact Or.inl trivial | exact Or.inr trivial)
              | succ m ih =>
                intro y u1 u3 u6 u8 m0 m1 m2 m3 m4 m6 m8 m9 I1 a0 a1
                have hs1 := pJ_s a1 hs
                have hF1 := pJ_F a1 hF
                have db := m_dieb_b (s := s) (F := F) (a := m_pa s p 0 + y) (l := s (100 + 6 * p + 3))
                refine b273_117 ?_
                try simp only [w_Ug, reduceIte, Nat.reduceEqDiff, Int.reduceEq, eq_self, if_true]
                repeat' (first | apply And.intro | intro)
                all_goals (try first | omega | contradiction | exact Or.inl trivial | exact Or.inr trivial)
                refine s215 hs1 w f1b (by decide) ?_
                refine b273_143 ?_
                try simp only [w_Ug, reduceIte, Nat.reduceEqDiff, Int.reduceEq, eq_self, hs1]
                repeat' (first | apply And.intro | intro)
                all_goals (try first | omega | contradiction | exact Or.inl trivial | exact Or.inr trivial)
                refine s272 hs1 hF1 cd (by omega) (by omega) (fun I2 fr2 => ?_)
                refine b273_164 ?_
                try simp only [w_Ug, reduceIte, Nat.reduceEqDiff, Int.reduceEq, eq_self, if_true]
                repeat' (first | apply And.intro | intro)
                all_goals (try first | omega | contradiction | exact Or.inl trivial | exact Or.inr trivial)
                exact ih (y + 1) _ _ _ _ _ _ _ _ _ _ _ _ I2 (by omega) (w_frt a1 (pC_J fr2))
            have find : ∀ (m : Nat) (l4 : Int) (u1 u5 u6 u7 u8 u9 : Option Value) (m0 m1 m2 m3 m4 m5 m6 m7 m8 m9 : Option Int64), l4 + m = p → 0 ≤ l4 → w_T xs xl 273 74 [some (.ref 104), u1, some (w_i n), some (w_i g), some (w_i l4), u5, u6, u7, u8, u9] [m0, m1, m2, m3, m4, m5, m6, m7, m8, m9] [] I J b Q := by
              intro m
              induction m with
              | zero =>
                intro l4 u1 u5 u6 u7 u8 u9 m0 m1 m2 m3 m4 m5 m6 m7 m8 m9 a0 a1
                have e : l4 = p := by omega
                subst e
                refine b273_74 (s210 hs w (by omega) (fun h5 => ?_) (fun h5 => ?_))
                · refine b273_80 ?_
                  try simp only [w_Ug, reduceIte, Nat.reduceEqDiff, Int.reduceEq, eq_self, hs]
                  repeat' (first | apply And.intro | intro)
                  all_goals (try first | omega | contradiction | exact Or.inl trivial | exact Or.inr trivial)
                  exact years n.toNat 0 _ _ _ _ _ _ _ _ _ _ _ _ I (by omega) w_frr
                · exact absurd ⟨f1b.1, f1b.2, f1o.1⟩ h5
              | succ m ih =>
                intro l4 u1 u5 u6 u7 u8 u9 m0 m1 m2 m3 m4 m5 m6 m7 m8 m9 a0 a1
                have no := f1n l4 a1 (by omega)
                have wl := w.2.2.1 l4 a1 (by omega)
                refine b273_74 (s210 hs w (by omega) (fun h5 => ?_) (fun h5 => ?_))
                · have : s (100 + 6 * l4 + 5) ≠ g := fun z => no ⟨h5.2.2, z⟩
                  refine b273_80 ?_
                  try simp only [w_Ug, reduceIte, Nat.reduceEqDiff, Int.reduceEq, eq_self, hs]
                  repeat' (first | apply And.intro | intro)
                  all_goals (try first | omega | contradiction | exact Or.inl trivial | exact Or.inr trivial)
                  exact ih (l4 + 1) _ _ _ _ _ _ _ _ _ _ _ _ _ _ _ _ (by omega) (by omega)
                · refine b273_80 ?_
                  try simp only [w_Ug, reduceIte, Nat.reduceEqDiff, Int.reduceEq, eq_self, hs]
                  repeat' (first | apply And.intro | intro)
                  all_goals (try first | omega | contradiction | exact Or.inl trivial | exact Or.inr trivial)
                  exact ih (l4 + 1) _ _ _ _ _ _ _ _ _ _ _ _ _ _ _ _ (by omega) (by omega)
            exact find p.toNat 0 _ _ _ _ _ _ _ _ _ _ _ _ _ _ _ _ (by omega) (by omega)
        · rw [m_dw_e em, if_pos (Or.inl (by omega))] at k
          have kk := k I w_frr
          refine b273_57 ?_
          try simp only [w_Ug, reduceIte, Nat.reduceEqDiff, Int.reduceEq, eq_self, if_true]
          repeat' (first | apply And.intro | intro)
          all_goals (try first | omega | contradiction | exact Or.inl trivial | exact Or.inr trivial)
      · rw [if_neg (fun z => h3 z.2.2)] at k
        have kk := k I w_frr
        refine b273_15 ?_
        try simp only [w_Ug, reduceIte, Nat.reduceEqDiff, Int.reduceEq, eq_self, hs]
        repeat' (first | apply And.intro | intro)
        all_goals (try first | omega | contradiction | exact Or.inl trivial | exact Or.inr trivial)
    · rw [if_neg (fun z => h2 z.2.1)] at k
      have kk := k I w_frr
      refine b273_15 ?_
      try simp only [w_Ug, reduceIte, Nat.reduceEqDiff, Int.reduceEq, eq_self, hs]
      repeat' (first | apply And.intro | intro)
      all_goals (try first | omega | contradiction | exact Or.inl trivial | exact Or.inr trivial)
  · rw [if_neg (fun z => h1 z.1)] at k
    have kk := k I w_frr
    refine b273_5 ?_
    try simp only [w_Ug, reduceIte, Nat.reduceEqDiff, Int.reduceEq, eq_self, if_true]
    repeat' (first | apply And.intro | intro)
    all_goals (try first | omega | contradiction | exact Or.inl trivial | exact Or.inr trivial)
theorem c18 {f : Int} (rf : c_rf 20 I s) (wf : m_wf s) (hf : m_isF s f) (k : Q (some (w_i (m_f1 s f))) I J b) : w_C xs xl 18 [.ref 20, w_i f] I J b Q := by
  have w := wf.1
  have w0 := w.1
  have hf1 := hf.1
  have hf2 := hf.2.1
  have rf' := rf
  simp only [c_rf, Nat.reduceAdd] at rf'
  obtain ⟨r13, -, -, -, rp, -⟩ := rf'
  obtain ⟨f1b, f1o, f1n⟩ := m_f1_is wf hf
  generalize m_f1 s f = p at f1b f1o f1n k
  refine e18 (b18_0 ?_)
  have loop : ∀ (m : Nat) (l2 : Int), l2 + m = p → 0 ≤ l2 → w_T xs xl 18 2 [some (.ref 20), some (w_i f), some (w_i l2)] [] [] I J b Q := by
    intro m
    induction m with
    | zero =>
      intro l2 a0 a1
      have e : l2 = p := by omega
      subst e
      have e25 := (rp l2 a1 f1b.2).2.2.2.2.1 f1o.1
      rw [f1o.2] at e25
      refine b18_2 ?_
      try simp only [w_Ug, reduceIte, Nat.reduceEqDiff, Int.reduceEq, eq_self, r13, e25]
      repeat' (first | apply And.intro | intro)
      all_goals (try first | omega | contradiction | exact Or.inl trivial | exact Or.inr trivial)
    | succ m ih =>
      intro l2 a0 a1
      have no := f1n l2 a1 (by omega)
      have wl := w.2.2.1 l2 a1 (by omega)
      have rl := rp l2 a1 (by omega)
      have hne : I 25 l2 ≠ f ∧ w_in (I 25 l2) := by
        by_cases c : s (100 + 6 * l2) = 1
        · have := rl.2.2.2.2.1 c
          exact ⟨fun z => no ⟨c, by omega⟩, by omega⟩
        · have := rl.2.2.2.2.2 c
          omega
      obtain ⟨hne1, hne2⟩ := hne
      refine b18_2 ?_
      try simp only [w_Ug, reduceIte, Nat.reduceEqDiff, Int.reduceEq, eq_self, r13]
      repeat' (first | apply And.intro | intro)
      all_goals (try first | omega | contradiction | exact Or.inl trivial | exact Or.inr trivial)
      exact ih (l2 + 1) (by omega) (by omega)
  exact loop p.toNat 0 (by omega) (by omega)
theorem c149 {F : m_F} {f n : Int} (rf : c_rf 20 I s) (rt : c_rt I s) (wf : m_wf s) (cd : c_cd (I 5) (I 6) (I 7) F s) (hf : w_in f) (hn : w_in n)
    (k : ∀ I', w_fr pK I I' → Q (some (w_l (m_waits F s f n))) I' J b) : w_C xs xl 149 [.ref 0, w_i f, w_i n] I J b Q := by
  have w := wf.1
  have w0 := w.1
  have rf' := rf
  simp only [c_rf, Nat.reduceAdd] at rf'
  obtain ⟨r13, -, -, -, rp, rff, rh, -⟩ := rf'
  unfold m_waits at k
  refine e149 (b149_0 ?_)
  refine c6 rf wf hf (fun h1 => ?_) (fun h1 => ?_)
  · have h11 := h1.1
    have h12 := h1.2.1
    have h13 := h1.2.2
    have w3 := w.2.2.2.1 f h11 h12
    have r29 := (rff f h11 h12).2.2.2.2.2
    by_cases h2 : 1 ≤ n ∧ n ≤ 8
    · by_cases h3 : 0 ≤ s (460 + 3 * f + 2)
      · rw [if_pos ⟨h1, h2, h3⟩] at k
        have e29 : I 29 f = s (460 + 3 * f + 2) := by omega
        have rh := rh (s (460 + 3 * f + 2)) h3 (by omega)
        refine b149_8 ?_
        try simp only [w_Ug, reduceIte, Nat.reduceEqDiff, Int.reduceEq, eq_self, e29]
        repeat' (first | apply And.intro | intro)
        all_goals (try first | omega | contradiction | exact Or.inl trivial | exact Or.inr trivial)
        refine e117 ?_
        by_cases h4 : I 30 (s (460 + 3 * f + 2)) = -1
        · rw [m_dw_e (rh.1 h4), if_pos (Or.inl (by omega))] at k
          have kk := b149_48 (xs := xs) (xl := xl) (u1 := some (w_i f)) (u2 := some (w_i n)) (k I w_frr)
          refine b117_0 ?_
          try simp only [w_Ug, reduceIte, Nat.reduceEqDiff, Int.reduceEq, eq_self, e29, h4]
          repeat' (first | apply And.intro | intro)
          all_goals (try first | omega | contradiction | exact Or.inl trivial | exact Or.inr trivial)
          exact kk
        · obtain ⟨q1, q2⟩ := rh.2 h4
          have q11 := q1.1
          have q12 := q1.2.1
          have dw := m_dw_f wf q1 q2 h3
          rw [dw] at k
          generalize hg : I 30 (s (460 + 3 * f + 2)) = g at *
          by_cases h5 : g = f
          · rw [if_pos (Or.inr h5)] at k
            have kk := b149_48 (xs := xs) (xl := xl) (u1 := some (w_i f)) (u2 := some (w_i n)) (k I w_frr)
            refine b117_0 ?_
            try simp only [w_Ug, reduceIte, Nat.reduceEqDiff, Int.reduceEq, eq_self, e29, hg]
            repeat' (first | apply And.intro | intro)
            all_goals (try first | omega | contradiction | exact Or.inl trivial | exact Or.inr trivial)
            exact kk
          · rw [if_neg (fun z => z.elim (fun z => by omega) h5)] at k
            refine b117_0 ?_
            try simp only [w_Ug, reduceIte, Nat.reduceEqDiff, Int.reduceEq, eq_self, e29, hg]
            repeat' (first | apply And.intro | intro)
            all_goals (try first | omega | contradiction | exact Or.inl trivial | exact Or.inr trivial)
            refine c18 rf wf q1 ?_
            obtain ⟨f1b, f1o, f1n⟩ := m_f1_is wf q1
            generalize m_f1 s g = p at f1b f1o f1n k ⊢
            have wp := w.2.2.1 p f1b.1 f1b.2
            have pab := m_pa_b (t := 0) w (p := p) f1b
            have years : ∀ (m y : Nat) (u1 u4 u7 u9 : Option Value) (m0 m1 m2 m3 m4 m5 m7 m9 m10 : Option Int64) (I1 : w_I), (y : Int) + m = n → w_fr pK I I1 → w_T xs xl 117 64 [some (.ref 102), u1, some (w_i n), some (.ref 20), u4, some (w_i p), none, u7, none, u9, some (w_i y)] [m0, m1, m2, m3, m4, m5, some (Int64.ofInt (m_hp y)), m7, some (Int64.ofInt (m_sv F s p y)), m9, m10] [] I1 J b (fun v Ic Jc bc => w_T xs xl 149 48 [some (.ref 0), some (w_i f), some (w_i n)] [] (w_pv v []) Ic Jc bc Q) := by
              intro m
              induction m with
              | zero =>
                intro y u1 u4 u7 u9 m0 m1 m2 m3 m4 m5 m7 m9 m10 I1 a0 a1
                have kk := k I1 a1
                rw [show n.toNat = y by omega] at kk
                have kk := b149_48 (xs := xs) (xl := xl) (u1 := some (w_i f)) (u2 := some (w_i n)) kk
                refine b117_64 ?_
                try simp only [w_Ug, reduceIte, Nat.reduceEqDiff, Int.reduceEq, eq_self, if_true]
                repeat' (first | apply And.intro | intro)
                all_goals (try first | omega | contradiction | exact Or.inl trivial | exact Or.inr trivial)
                exact kk
              | succ m ih =>
                intro y u1 u4 u7 u9 m0 m1 m2 m3 m4 m5 m7 m9 m10 I1 a0 a1
                have db := m_dieb_b (s := s) (F := F) (a := m_pa s p 0 + y) (l := s (100 + 6 * p + 3))
                have rf1 := pK_rf a1 rf
                have e24 : I1 24 p = s (100 + 6 * p + 3) := by
                  have rf1' := rf1
                  simp only [c_rf, Nat.reduceAdd] at rf1'
                  exact (rf1'.2.2.2.2.1 p f1b.1 f1b.2).2.2.2.1
                refine b117_64 ?_
                try simp only [w_Ug, reduceIte, Nat.reduceEqDiff, Int.reduceEq, eq_self, if_true]
                repeat' (first | apply And.intro | intro)
                all_goals (try first | omega | contradiction | exact Or.inl trivial | exact Or.inr trivial)
                refine c11 rf1 w f1b (by decide) ?_
                refine b117_93 ?_
                try simp only [w_Ug, reduceIte, Nat.reduceEqDiff, Int.reduceEq, eq_self, e24]
                repeat' (first | apply And.intro | intro)
                all_goals (try first | omega | contradiction | exact Or.inl trivial | exact Or.inr trivial)
                refine c30 (pK_cd a1 cd) (by omega) (by omega) (fun I2 fr2 => ?_)
                refine b117_106 ?_
                try simp only [w_Ug, reduceIte, Nat.reduceEqDiff, Int.reduceEq, eq_self, if_true]
                repeat' (first | apply And.intro | intro)
                all_goals (try first | omega | contradiction | exact Or.inl trivial | exact Or.inr trivial)
                exact ih (y + 1) _ _ _ _ _ _ _ _ _ _ _ _ _ I2 (by omega) (w_frt a1 (pV_K fr2))
            refine b117_43 ?_
            try simp only [w_Ug, reduceIte, Nat.reduceEqDiff, Int.reduceEq, eq_self, if_true]
            repeat' (first | apply And.intro | intro)
            all_goals (try first | omega | contradiction | exact Or.inl trivial | exact Or.inr trivial)
            exact years n.toNat 0 _ _ _ _ _ _ _ _ _ _ _ _ _ I (by omega) w_frr
      · rw [if_neg (fun z => h3 z.2.2)] at k
        have e29 : I 29 f = -1 := by omega
        have kk := k I w_frr
        refine b149_8 ?_
        try simp only [w_Ug, reduceIte, Nat.reduceEqDiff, Int.reduceEq, eq_self, e29]
        repeat' (first | apply And.intro | intro)
        all_goals (try first | omega | contradiction | exact Or.inl trivial | exact Or.inr trivial)
    · rw [if_neg (fun z => h2 z.2.1)] at k
      have kk := k I w_frr
      refine b149_8 ?_
      try simp only [w_Ug, reduceIte, Nat.reduceEqDiff, Int.reduceEq, eq_self, hs]
      repeat' (first | apply And.intro | intro)
      all_goals (try first | omega | contradiction | exact Or.inl trivial | exact Or.inr trivial)
  · rw [if_neg (fun z => h1 z.1)] at k
    have kk := k I w_frr
    refine b149_8 ?_
    try simp only [w_Ug, reduceIte, Nat.reduceEqDiff, Int.reduceEq, eq_self, if_true]
    repeat' (first | apply And.intro | intro)
    all_goals (try first | omega | contradiction | exact Or.inl trivial | exact Or.inr trivial)
end
