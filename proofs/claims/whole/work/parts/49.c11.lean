section
/-! the class: what is unlawful -/
variable {xs : Nat → Int32} {xl : Nat} {I J : w_I} {b : Bool} {Q : Option Value → w_I → w_I → Bool → Prop}
variable {s : Int → Int}
theorem c105 {a d : Int} (rt : c_rt I s) (w : m_w0 s) (ha : 0 ≤ a ∧ a < s 0) (hd : 0 ≤ d ∧ d < s 0) (k1 : m_row2 s a d → Q (some (w_i 1)) I J b) (k0 : ¬ m_row2 s a d → Q (some (w_i 0)) I J b) : w_C xs xl 105 [.ref 2, w_i a, w_i d] I J b Q := by
  have w0 := w.1
  have w1 := (w.2.1 a ha.1 ha.2).1
  have w2 := (w.2.1 d hd.1 hd.2).1
  have t1 := (rt.2.2.2.2.2 a ha.1 ha.2).1
  have t2 := (rt.2.2.2.2.2 d hd.1 hd.2).1
  have ho : w_in (w_or (s (20 + a)) (s (20 + d))) := by unfold w_or; exact w_bnd _
  have hr : w_or (s (20 + a)) (s (20 + d)) = 3 ↔ ¬ m_row2 s a d := by
    rcases w1 with e | e | e <;> rcases w2 with e' | e' | e' <;> (simp only [m_row2]; rw [e, e']; decide)
  refine e105 ?_
  refine b105_0 ?_
  try simp only [w_Ug, reduceIte, Nat.reduceEqDiff, Int.reduceEq, eq_self, t1, t2]
  repeat' (first | apply And.intro | intro)
  all_goals (try first | omega | contradiction | exact Or.inl trivial | exact Or.inr trivial)
  all_goals first | exact k0 (by omega) | exact k1 (by omega)
/-- the age cells are right -/
def c_ag (I : w_I) (s : Int → Int) (t by' : Int) : Prop := ∀ f, 0 ≤ f → f < s 8 → I 82 f = m_ag s f (-1) t by' ∧ I 83 f = m_ag s f (-1) t by' / s 1
theorem c26 {F : m_F} {a d t by' : Int} (rf : c_rf 20 I s) (rt : c_rt I s) (wf : m_wf s) (cd : c_cd (I 5) (I 6) (I 7) F s) (ag : c_ag I s t by') (ha : 0 ≤ a ∧ a < s 0) (hd : 0 ≤ d ∧ d < s 0)
    (k1 : m_unl F s t by' a d → ∀ I', w_fr pV I I' → Q (some (w_i 1)) I' J b) (k0 : ¬ m_unl F s t by' a d → ∀ I', w_fr pV I I' → Q (some (w_i 0)) I' J b) : w_C xs xl 26 [.ref 78, w_i a, w_i d] I J b Q := by
  have w := wf.1
  have w0 := w.1
  have rf' := rf
  simp only [c_rf, Nat.reduceAdd] at rf'
  obtain ⟨-, -, -, -, -, -, rh, -⟩ := rf'
  have ra := rh a (by omega) (by omega)
  have rd := rh d (by omega) (by omega)
  refine e26 ?_
  by_cases xa : I 30 a = -1
  · have kk := k0 (fun ⟨f', g', x1, x2, x3, x4, x5, x6, x7⟩ => ra.1 xa f' x1 x2) I w_frr
    refine b26_0 ?_
    try simp only [w_Ug, reduceIte, Nat.reduceEqDiff, Int.reduceEq, eq_self, xa]
    repeat' (first | apply And.intro | intro)
    all_goals (try first | omega | contradiction | exact Or.inl trivial | exact Or.inr trivial)
  · obtain ⟨hf, ef⟩ := ra.2 xa
    have hf1 := hf.1
    have hf2 := hf.2.1
    by_cases xd : I 30 d = -1
    · have kk := k0 (fun ⟨f', g', x1, x2, x3, x4, x5, x6, x7⟩ => rd.1 xd g' x3 x4) I w_frr
      refine b26_0 ?_
      try simp only [w_Ug, reduceIte, Nat.reduceEqDiff, Int.reduceEq, eq_self, xd]
      repeat' (first | apply And.intro | intro)
      all_goals (try first | omega | contradiction | exact Or.inl trivial | exact Or.inr trivial)
    · obtain ⟨hg, eg⟩ := rd.2 xd
      have hg1 := hg.1
      have hg2 := hg.2.1
      generalize hIa : I 30 a = f at *
      generalize hId : I 30 d = g at *
      obtain ⟨a1, a2⟩ := ag f hf1 hf2
      obtain ⟨a3, a4⟩ := ag g hg1 hg2
      have uf : ∀ f', m_isF s f' → s (460 + 3 * f' + 1) = a → f' = f := fun f' h e => wf.2.2.2 f' f h hf (by omega) (by omega)
      have ug : ∀ g', m_isF s g' → s (460 + 3 * g' + 1) = d → g' = g := fun g' h e => wf.2.2.2 g' g h hg (by omega) (by omega)
      have bf := m_ag_b (f := f) (g := -1) (t := t) (by' := by') w
      have bg := m_ag_b (f := g) (g := -1) (t := t) (by' := by') w
      have kf : 0 ≤ m_ag s f (-1) t by' / s 1 ∧ m_ag s f (-1) t by' / s 1 ≤ 199 := ⟨Int.ediv_nonneg bf.1 (by omega), by
        have := Int.ediv_le_self (s 1) bf.1
        omega⟩
      have kg : 0 ≤ m_ag s g (-1) t by' / s 1 ∧ m_ag s g (-1) t by' / s 1 ≤ 199 := ⟨Int.ediv_nonneg bg.1 (by omega), by
        have := Int.ediv_le_self (s 1) bg.1
        omega⟩
      have hun : m_row2 s a d → m_ag s g (-1) t by' / s 1 < m_ag s f (-1) t by' / s 1 → (m_unl F s t by' a d ↔ ¬ m_forg F s (m_vr (m_ag s f (-1) t by') (m_sz s f (-1)) (m_lm s f (-1)) (s 9 % 12) 0 0 0 (m_ag s f (-1) t by' / s 1 - m_ag s g (-1) t by' / s 1) 0 0)) := by
        intro hr hlt
        constructor
        · rintro ⟨f', g', x1, x2, x3, x4, x5, x6, x7⟩
          rw [uf f' x1 x2, ug g' x3 x4] at x7
          exact x7
        · intro x
          exact ⟨f, g, hf, ef, hg, eg, hr, hlt, x⟩
      have hno : ¬ (m_row2 s a d ∧ m_ag s g (-1) t by' / s 1 < m_ag s f (-1) t by' / s 1) → ¬ m_unl F s t by' a d := by
        rintro hn ⟨f', g', x1, x2, x3, x4, x5, x6, x7⟩
        rw [uf f' x1 x2, ug g' x3 x4] at x6
        exact hn ⟨x5, x6⟩
      refine b26_0 ?_
      try simp only [w_Ug, reduceIte, Nat.reduceEqDiff, Int.reduceEq, eq_self, hIa, hId, a2, a4]
      repeat' (first | apply And.intro | intro)
      all_goals (try first | omega | contradiction | exact Or.inl trivial | exact Or.inr trivial)
      · rename_i hlt
        refine c105 rt w ha hd (fun hr => ?_) (fun hr => ?_)
        · have hu := hun hr hlt
          refine b26_59 ?_
          try simp only [w_Ug, reduceIte, Nat.reduceEqDiff, Int.reduceEq, eq_self, a2, a4]
          repeat' (first | apply And.intro | intro)
          all_goals (try first | omega | contradiction | exact Or.inl trivial | exact Or.inr trivial)
          refine c27 rf rt w cd ⟨hf1, hf2⟩ (by omega) (by omega) (fun hfo I2 fr2 => ?_) (fun hfo I2 fr2 => ?_)
          · rw [a1] at hfo
            have kk := k0 (fun x => hu.mp x hfo) I2 fr2
            refine b26_81 ?_
            try simp only [w_Ug, reduceIte, Nat.reduceEqDiff, Int.reduceEq, eq_self, if_true]
            repeat' (first | apply And.intro | intro)
            all_goals (try first | omega | contradiction | exact Or.inl trivial | exact Or.inr trivial)
          · rw [a1] at hfo
            have kk := k1 (hu.mpr hfo) I2 fr2
            refine b26_81 ?_
            try simp only [w_Ug, reduceIte, Nat.reduceEqDiff, Int.reduceEq, eq_self, if_true]
            repeat' (first | apply And.intro | intro)
            all_goals (try first | omega | contradiction | exact Or.inl trivial | exact Or.inr trivial)
        · have kk := k0 (hno (fun x => hr x.1)) I w_frr
          refine b26_59 ?_
          try simp only [w_Ug, reduceIte, Nat.reduceEqDiff, Int.reduceEq, eq_self, if_true]
          repeat' (first | apply And.intro | intro)
          all_goals (try first | omega | contradiction | exact Or.inl trivial | exact Or.inr trivial)
      · rename_i hlt
        exact k0 (hno (fun x => hlt x.2)) I w_frr
def pW (a : Nat) (k : Int) : Bool := pV a k || (a == 78 && k == 7)
theorem pV_W {I I' : w_I} (h : w_fr pV I I') : w_fr pW I I' := w_frm h (fun a k e => by
  unfold pW at e
  cases h : pV a k
  · rfl
  · rw [h, Bool.true_or] at e; cases e)
theorem c25 {F : m_F} {U : Int → Int → Bool} {i t by' : Int} (rf : c_rf 20 I s) (rt : c_rt I s) (wf : m_wf s) (cd : c_cd (I 5) (I 6) (I 7) F s) (ag : c_ag I s t by') (hi : w_in i) (hU : ∀ a d, 0 ≤ a → a < d → d < s 0 → (U a d = true ↔ m_unl F s t by' a d))
    (k : ∀ I', w_fr pW I I' → I' 78 7 = (u_scan U (s 0) i 700 0 1 0).2 → Q (some (w_i (u_scan U (s 0) i 700 0 1 0).1)) I' J b) : w_C xs xl 25 [.ref 78, w_i i] I J b Q := by
  have w0 := wf.1.1
  generalize hR : u_scan U (s 0) i 700 0 1 0 = R at k
  refine e25 (b25_0 ?_)
  have loop : ∀ (f : Nat) (n a d : Int) (I1 : w_I), w_fr pW I I1 → I1 78 7 = n → 0 ≤ a → a < s 0 → a < d → d ≤ s 0 → 26 * (s 0 - a) + (s 0 - d) < f → 0 ≤ n → n + f ≤ 700 → R = u_scan U (s 0) i f a d n →
      w_T xs xl 25 22 [some (.ref 78), some (w_i i), some (w_i a), some (w_i d)] [] [] I1 J b Q := by
    intro f
    induction f with
    | zero => intro n a d I1 a0 an a1 a2 a3 a4 a5; omega
    | succ f ih =>
      intro n a d I1 a0 an a1 a2 a3 a4 a5 a6 a7 a8
      have t5 : I1 2 5 = s 0 := by rw [w_frA a0 (fun _ => rfl)]; exact rt.1
      have rf1 : c_rf 20 I1 s := c_rf_fr (fun x h1 h2 => w_frA a0 (fun k => by
        have e1 : (x == 80) = false := by simp; omega
        have e2 : (x == 81) = false := by simp; omega
        have e3 : (x == 79) = false := by simp; omega
        have e4 : (x == 78) = false := by simp; omega
        simp only [pW, pV, p96, e1, e2, e3, e4, Bool.false_and, Bool.or_false])) rf
      have rt1 : c_rt I1 s := by
        unfold c_rt
        rw [w_frA a0 (fun _ => rfl), w_frA (a := 3) a0 (fun _ => rfl), w_frA (a := 4) a0 (fun _ => rfl)]
        exact rt
      have cd1 := c_cd_fr cd a0 (fun _ => rfl) (fun _ => rfl) (fun _ => rfl)
      have ag1 : c_ag I1 s t by' := by
        unfold c_ag
        rw [w_frA a0 (fun _ => rfl), w_frA (a := 83) a0 (fun _ => rfl)]
        exact ag
      unfold u_scan at a8
      by_cases hd : d < s 0
      · rw [if_pos hd] at a8
        refine b25_22 ?_
        try simp only [w_Ug, reduceIte, Nat.reduceEqDiff, Int.reduceEq, eq_self, t5]
        repeat' (first | apply And.intro | intro)
        all_goals (try first | omega | contradiction | exact Or.inl trivial | exact Or.inr trivial)
        refine c26 rf1 rt1 wf cd1 ag1 ⟨a1, a2⟩ (by omega) (fun hu I2 fr2 => ?_) (fun hu I2 fr2 => ?_)
        · have n2 : I2 78 7 = n := by rw [fr2 78 7 rfl]; exact an
          rw [(hU a d a1 a3 hd).mpr hu, if_pos rfl] at a8
          by_cases hn : n = i
          · rw [if_pos hn] at a8
            have kk := k I2 (w_frt a0 (pV_W fr2))
            rw [a8] at kk
            have kk := kk n2
            refine b25_39 ?_
            try simp only [w_Ug, reduceIte, Nat.reduceEqDiff, Int.reduceEq, eq_self, n2]
            repeat' (first | apply And.intro | intro)
            all_goals (try first | omega | contradiction | exact Or.inl trivial | exact Or.inr trivial)
          · rw [if_neg hn] at a8
            refine b25_39 ?_
            try simp only [w_Ug, reduceIte, Nat.reduceEqDiff, Int.reduceEq, eq_self, n2]
            repeat' (first | apply And.intro | intro)
            all_goals (try first | omega | contradiction | exact Or.inl trivial | exact Or.inr trivial)
            exact ih (n + 1) a (d + 1) _ (w_frU (w_frt a0 (pV_W fr2)) rfl) (by rw [w_Ug, if_pos rfl, if_pos rfl]) a1 a2 (by omega) (by omega) (by omega) (by omega) (by omega) a8
        · have : U a d = false := by
            cases hx : U a d
            · rfl
            · exact absurd ((hU a d a1 a3 hd).mp hx) hu
          rw [this, if_neg (by decide)] at a8
          have n2 : I2 78 7 = n := by rw [fr2 78 7 rfl]; exact an
          refine b25_39 ?_
          try simp only [w_Ug, reduceIte, Nat.reduceEqDiff, Int.reduceEq, eq_self, n2]
          repeat' (first | apply And.intro | intro)
          all_goals (try first | omega | contradiction | exact Or.inl trivial | exact Or.inr trivial)
          exact ih n a (d + 1) I2 (w_frt a0 (pV_W fr2)) n2 a1 a2 (by omega) (by omega) (by omega) (by omega) (by omega) a8
      · rw [if_neg hd] at a8
        refine b25_22 ?_
        try simp only [w_Ug, reduceIte, Nat.reduceEqDiff, Int.reduceEq, eq_self, t5]
        repeat' (first | apply And.intro | intro)
        all_goals (try first | omega | contradiction | exact Or.inl trivial | exact Or.inr trivial)
        by_cases ha : a + 1 < s 0
        · rw [if_pos ha] at a8
          refine b25_7 ?_
          try simp only [w_Ug, reduceIte, Nat.reduceEqDiff, Int.reduceEq, eq_self, t5]
          repeat' (first | apply And.intro | intro)
          all_goals (try first | omega | contradiction | exact Or.inl trivial | exact Or.inr trivial)
          rw [show a + 1 + 1 = a + 2 by omega]
          exact ih n (a + 1) (a + 2) I1 a0 an (by omega) ha (by omega) (by omega) (by omega) a6 (by omega) a8
        · rw [if_neg ha] at a8
          have kk := k I1 a0
          rw [a8] at kk
          have kk := kk an
          refine b25_7 ?_
          try simp only [w_Ug, reduceIte, Nat.reduceEqDiff, Int.reduceEq, eq_self, t5]
          repeat' (first | apply And.intro | intro)
          all_goals (try first | omega | contradiction | exact Or.inl trivial | exact Or.inr trivial)
  have t5 : I 2 5 = s 0 := rt.1
  by_cases h0 : 0 < s 0
  · refine b25_7 ?_
    try simp only [w_Ug, reduceIte, Nat.reduceEqDiff, Int.reduceEq, eq_self, t5]
    repeat' (first | apply And.intro | intro)
    all_goals (try first | omega | contradiction | exact Or.inl trivial | exact Or.inr trivial)
    exact loop 700 0 0 1 _ (w_frU w_frr rfl) (by rw [w_Ug, if_pos rfl, if_pos rfl]) (by omega) h0 (by omega) (by omega) (by omega) (by omega) (by omega) hR.symm
  · have kk := k _ (w_frU (v := 0) w_frr (show pW 78 7 = true from rfl))
    have : R = (-1, 0) := by
      rw [← hR]
      show (if (1 : Int) < s 0 then _ else if (0 : Int) + 1 < s 0 then _ else _) = _
      rw [if_neg (by omega), if_neg (by omega)]
    rw [this] at kk
    have kk := kk (by rw [w_Ug, if_pos rfl, if_pos rfl])
    refine b25_7 ?_
    try simp only [w_Ug, reduceIte, Nat.reduceEqDiff, Int.reduceEq, eq_self, t5]
    repeat' (first | apply And.intro | intro)
    all_goals (try first | omega | contradiction | exact Or.inl trivial | exact Or.inr trivial)
end
