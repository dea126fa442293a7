section
/-! the class: LEAST -/
variable {xs : Nat → Int32} {xl : Nat} {I J : w_I} {b : Bool} {Q : Option Value → w_I → w_I → Bool → Prop}
variable {s : Int → Int}
theorem c104 (rt : c_rt I s) (w : m_w0 s) (k1 : m_tt s → Q (some (w_i 1)) I J b) (k0 : ¬ m_tt s → Q (some (w_i 0)) I J b) : w_C xs xl 104 [.ref 2] I J b Q := by
  have w0 := w.1
  have t5 := rt.1
  refine e104 (b104_0 ?_)
  have loop : ∀ (m n : Nat) (l1 l2 : Int) (p q : Bool), (n : Int) + m = s 0 → l2 = n → l1 = (if p then 1 else 0) + (if q then 2 else 0) → (0 ≤ m_sum (fun h => if s (20 + h) = 1 then 1 else 0) n ∧ 0 ≤ m_sum (fun h => if s (20 + h) = 2 then 1 else 0) n) → (p = true ↔ 0 < m_sum (fun h => if s (20 + h) = 1 then 1 else 0) n) → (q = true ↔ 0 < m_sum (fun h => if s (20 + h) = 2 then 1 else 0) n) →
      w_T xs xl 104 4 [some (.ref 2), some (w_i l1), some (w_i l2)] [] [] I J b Q := by
    intro m
    induction m with
    | zero =>
      intro n l1 l2 p q a0 a1 a2 a6 a4 a5
      have en : (s 0).toNat = n := by omega
      have h1 : p = true ∧ q = true → Q (some (w_i 1)) I J b := fun x => k1 (by unfold m_tt; rw [en]; exact ⟨a4.mp x.1, a5.mp x.2⟩)
      have h0 : ¬ (p = true ∧ q = true) → Q (some (w_i 0)) I J b := fun x => k0 (by unfold m_tt; rw [en]; exact fun y => x ⟨a4.mpr y.1, a5.mpr y.2⟩)
      have hl : l1 = 3 ↔ (p = true ∧ q = true) := by rw [a2]; cases p <;> cases q <;> decide
      have hb : w_in l1 := by rw [a2]; cases p <;> cases q <;> decide
      refine b104_4 ?_
      try simp only [w_Ug, reduceIte, Nat.reduceEqDiff, Int.reduceEq, eq_self, t5]
      repeat' (first | apply And.intro | intro)
      all_goals (try first | omega | contradiction | exact Or.inl trivial | exact Or.inr trivial)
      · rename_i x; exact h0 (fun y => x (hl.mpr y))
      · rename_i x; exact h1 (hl.mp x)
    | succ m ih =>
      intro n l1 l2 p q a0 a1 a2 a6 a4 a5
      have w1 := (w.2.1 l2 (by omega) (by omega)).1
      have i3 := (rt.2.2.2.2.2 l2 (by omega) (by omega)).1
      have t1 := m_sum_s (fun h => if s (20 + h) = 1 then 1 else 0) n
      have t2 := m_sum_s (fun h => if s (20 + h) = 2 then 1 else 0) n
      try dsimp only at t1 t2
      rw [← a1] at t1 t2
      generalize m_sum (fun h => if s (20 + h) = 1 then 1 else 0) n = x1 at t1 a4 a6
      generalize m_sum (fun h => if s (20 + h) = 2 then 1 else 0) n = x2 at t2 a5 a6
      refine b104_4 ?_
      try simp only [w_Ug, reduceIte, Nat.reduceEqDiff, Int.reduceEq, eq_self, t5, i3]
      repeat' (first | apply And.intro | intro)
      all_goals (try first | omega | contradiction | exact Or.inl trivial | exact Or.inr trivial)
      rcases w1 with e | e | e
      · rw [e, if_neg (by decide)] at t1 t2
        refine ih (n + 1) _ _ p q (by omega) (by omega) ?_ (by rw [t1, t2]; omega) (by rw [t1, a4]; omega) (by rw [t2, a5]; omega)
        rw [a2, e]
        cases p <;> cases q <;> decide
      · rw [e, if_pos rfl] at t1
        rw [e, if_neg (by decide)] at t2
        refine ih (n + 1) _ _ true q (by omega) (by omega) ?_ (by rw [t1, t2]; omega) (by rw [t1]; exact ⟨fun _ => by omega, fun _ => rfl⟩) (by rw [t2, a5]; omega)
        rw [a2, e]
        cases p <;> cases q <;> decide
      · rw [e, if_neg (by decide)] at t1
        rw [e, if_pos rfl] at t2
        refine ih (n + 1) _ _ p true (by omega) (by omega) ?_ (by rw [t1, t2]; omega) (by rw [t1, a4]; omega) (by rw [t2]; exact ⟨fun _ => by omega, fun _ => rfl⟩)
        rw [a2, e]
        cases p <;> cases q <;> decide
  exact loop (s 0).toNat 0 0 0 false false (by omega) rfl rfl ⟨Int.le_refl _, Int.le_refl _⟩ ⟨fun x => (by cases x), fun x => absurd x (by simp [m_sum])⟩ ⟨fun x => (by cases x), fun x => absurd x (by simp [m_sum])⟩
/-- what LEAST may change of the class -/
def pE (a : Nat) (k : Int) : Bool := a == 88 || (a == 85 && (k == 4 || k == 5)) || p34 a k || pZ a k
theorem p34_E {I I' : w_I} (h : w_fr p34 I I') : w_fr pE I I' := w_frm h (fun a k e => by
  unfold pE at e
  simp only [Bool.or_eq_false_iff] at e
  exact e.1.2)
theorem pZ_E {I I' : w_I} (h : w_fr pZ I I') : w_fr pE I I' := w_frm h (fun a k e => by
  unfold pE at e
  simp only [Bool.or_eq_false_iff] at e
  exact e.2)
theorem pE_rf {I I' : w_I} (h : w_fr pE I I') (rf : c_rf 20 I s) : c_rf 20 I' s := c_rf_fr (fun x h1 h2 => w_frA h (fun k => by
  have e1 : (x == 80) = false := by simp; omega
  have e2 : (x == 81) = false := by simp; omega
  have e3 : (x == 79) = false := by simp; omega
  have e4 : (x == 86) = false := by simp; omega
  have e5 : (x == 87) = false := by simp; omega
  have e6 : (x == 88) = false := by simp; omega
  have e7 : (x == 85) = false := by simp; omega
  have e8 : (x == 82) = false := by simp; omega
  have e9 : (x == 83) = false := by simp; omega
  have e10 : (x == 84) = false := by simp; omega
  have e11 : (x == 78) = false := by simp; omega
  simp only [pE, p34, pV, p96, pZ, pA, p24, e1, e2, e3, e4, e5, e6, e7, e8, e9, e10, e11, Bool.false_and, Bool.or_false])) rf
theorem pE_rt {I I' : w_I} (h : w_fr pE I I') (rt : c_rt I s) : c_rt I' s := by
  unfold c_rt
  rw [w_frA h (fun _ => rfl), w_frA (a := 3) h (fun _ => rfl), w_frA (a := 4) h (fun _ => rfl)]
  exact rt
theorem c_hm (rf : c_rf 20 I s) (wf : m_wf s) {f : Int} (hf : m_isF s f) : I 28 f = m_hm s f := by
  have := c_home rf wf hf
  unfold m_hm
  rcases this with x | x
  · rw [if_pos (by omega)]; exact x.2
  · rw [if_neg (by omega)]; exact x.2.2
theorem m_S_F {c : Int} (hc : m_cm s c) : ∀ g, m_S s c g → m_isF s g := by
  intro g hg
  rcases hg with x | x
  · exact x.1
  · rcases hc with y | y
    · exact absurd y x.2
    · rw [x.1]; exact y.1
theorem c33 {F : m_F} {c : Int} (rf : c_rf 20 I s) (rt : c_rt I s) (wf : m_wf s) (cd : c_cd (I 5) (I 6) (I 7) F s) (hc : m_cm s c)
    (k1 : ∀ n r, r_ok n r (m_S s c) (m_rk s (m_kf s (s 1))) → ¬ m_tt s → n ≤ s 0 → ∀ I', w_fr pE I I' → I' 78 6 = n → (∀ i, 0 ≤ i → i < n → I' 84 i = r i) → I' 85 4 = m_V F s n r / 1000000 → I' 85 5 = m_V F s n r % 1000000 → (∀ i : Nat, i < n → I' 88 i = m_gL F s n r i) → Q (some (w_i 1)) I' J b)
    (k0 : ∀ n r, r_ok n r (m_S s c) (m_rk s (m_kf s (s 1))) → m_tt s ∨ s 0 < n → ∀ I', w_fr pE I I' → Q (some (w_i 0)) I' J b) : w_C xs xl 33 [.ref 85, w_i c] I J b Q := by
  have w := wf.1
  have w0 := w.1
  refine e33 (b33_0 ?_)
  refine c21 rf rt wf (fun I1 g1 ag1 => b33_7 ?_)
  have fr1 := pA_fr g1
  have rf1 := pA_rf fr1 rf
  have rt1 := pA_rt fr1 rt
  refine c23 (c := c) (kf := m_kf s (s 1)) rf1 rt1 wf (fun g x y => ⟨(ag1 g x y).2, by
    have := m_kf_b w (st := s 1) (g := g) (by omega)
    omega⟩) hc (fun n I2 fr2 n2 nb r2 => ?_)
  have n0 := r2.1
  have frZ := w_frt (pA_Z fr1) (p24_Z fr2)
  have rt2 : c_rt I2 s := by
    unfold c_rt
    rw [w_frA fr2 (fun _ => rfl), w_frA (a := 3) fr2 (fun _ => rfl), w_frA (a := 4) fr2 (fun _ => rfl)]
    exact rt1
  have t5 : I2 2 5 = s 0 := rt2.1
  have k1 := k1 n (I2 84) r2
  have k0 := k0 n (I2 84) r2
  by_cases hn : s 0 < n
  · have kk := k0 (Or.inr hn) I2 (pZ_E frZ)
    refine b33_15 ?_
    try simp only [w_Ug, reduceIte, Nat.reduceEqDiff, Int.reduceEq, eq_self, t5, n2]
    repeat' (first | apply And.intro | intro)
    all_goals (try first | omega | contradiction | exact Or.inl trivial | exact Or.inr trivial)
  · refine b33_15 ?_
    try simp only [w_Ug, reduceIte, Nat.reduceEqDiff, Int.reduceEq, eq_self, t5, n2]
    repeat' (first | apply And.intro | intro)
    all_goals (try first | omega | contradiction | exact Or.inl trivial | exact Or.inr trivial)
    refine c104 rt2 w (fun ht => ?_) (fun ht => ?_)
    · have kk := k0 (Or.inl ht) I2 (pZ_E frZ)
      refine b33_48 ?_
      try simp only [w_Ug, reduceIte, Nat.reduceEqDiff, Int.reduceEq, eq_self, if_true]
      repeat' (first | apply And.intro | intro)
      all_goals (try first | omega | contradiction | exact Or.inl trivial | exact Or.inr trivial)
    · have k1 := k1 ht (by omega)
      have hn' : n ≤ s 0 := by omega
      have ps := m_pf_ps (s := s) (F := F) (cs := 1) (r := I2 84) (lo := 0) (hi := n)
      have inF : ∀ i, 0 ≤ i → i < n → m_isF s (I2 84 i) := fun i x y => m_S_F hc _ (r2.2.1 i x y)
      generalize hr : I2 84 = r at k1 ps inF r2
      generalize hsl : s 0 - n = sl at *
      refine b33_48 ?_
      try simp only [w_Ug, reduceIte, Nat.reduceEqDiff, Int.reduceEq, eq_self, if_true]
      repeat' (first | apply And.intro | intro)
      all_goals (try first | omega | contradiction | exact Or.inl trivial | exact Or.inr trivial)
      refine f295_86 (fun I3 g3 z3 => b33_61 ?_)
      have fr3 : w_fr pE I I3 := w_frt (pZ_E frZ) (fun a k e => by
        have : a ≠ 86 := by
          intro x
          subst x
          cases e
        rw [g3 a this])
      have e3 : I3 78 6 = n := by rw [g3 78 (by decide)]; exact n2
      have r3 : I3 84 = r := (g3 84 (by decide)).trans hr
      have ag3 : c_ag I3 s 0 (s 3) := by
        unfold c_ag
        rw [g3 82 (by decide), g3 83 (by decide), w_frA (a := 82) fr2 (fun _ => rfl), w_frA (a := 83) fr2 (fun _ => rfl)]
        exact ag1
      rw [e3]
      have loop : ∀ (m : Nat) (l3 : Int) (u4 : Option Value) (I4 : w_I), l3 + 1 = m → l3 < n → w_fr pE I I4 → I4 78 6 = n → I4 84 = r → c_ag I4 s 0 (s 3) → l_best I4 (m_pf F s 1 r) (s 0) sl (n - (l3 + 1)).toNat (l3 + 1) → (∀ i, l3 < i → i < n → l_pick I4 (m_pf F s 1 r) (s 0) sl (n - (i + 1)).toNat i) →
          w_T xs xl 33 71 [some (.ref 85), some (w_i c), some (w_i sl), some (w_i l3), u4] [] [] I4 J b Q := by
        intro m
        induction m with
        | zero =>
          intro l3 u4 I4 a0 a1 a2 a3 a4 a5 a6 a7
          have e : l3 = -1 := by omega
          subst e
          have b0 := a6 0 (by omega) (by omega)
          rw [show (n - (-1 + 1)).toNat = n.toNat by omega, show (sl - 0).toNat = (s 0 - n).toNat by omega, show ((-1 : Int) + 1) = 0 by omega] at b0
          have ev : I4 86 0 = l_cv (m_V F s n r) := b0
          obtain ⟨M, C, m1, m2, m3, m4, m5⟩ := l_v_m (H := s 0) ps n.toNat 0 (s 0 - n).toNat (by omega) (by omega)
          have m1 : m_V F s n r = M * 1000000 + C := m1
          rw [m1, l_cv_e (by omega)] at ev
          rw [m1] at k1
          have walk : ∀ (m i : Nat) (l3 l4 : Int) (I5 : w_I), (i : Int) + m = n → l4 = i → l3 = sl - l_js (m_pf F s 1 r) (s 0) n.toNat i → w_fr pE I I5 → I5 78 6 = n → I5 84 = r → (∀ i, -1 < i → i < n → l_pick I5 (m_pf F s 1 r) (s 0) sl (n - (i + 1)).toNat i) → I5 85 4 = (M * 1000000 + C) / 1000000 → I5 85 5 = (M * 1000000 + C) % 1000000 → (∀ i' : Nat, i' < i → I5 88 i' = m_gL F s n r i') →
              w_T xs xl 33 118 [some (.ref 85), some (w_i c), some (w_i sl), some (w_i l3), some (w_i l4)] [] [] I5 J b Q := by
            intro m
            induction m with
            | zero =>
              intro i l3 l4 I5 d0 d1 d2 d3 d4 d5 d6 d7 d8 d9
              have kk := k1 I5 d3 d4 (fun i x y => by rw [d5]) d7 d8 (fun i hi => d9 i (by omega))
              refine b33_118 ?_
              try simp only [w_Ug, reduceIte, Nat.reduceEqDiff, Int.reduceEq, eq_self, d4]
              repeat' (first | apply And.intro | intro)
              all_goals (try first | omega | contradiction | exact Or.inl trivial | exact Or.inr trivial)
            | succ m ih =>
              intro i l3 l4 I5 d0 d1 d2 d3 d4 d5 d6 d7 d8 d9
              have jl := l_js_le (pay := m_pf F s 1 r) (H := s 0) (n := n.toNat) i
              have jd := l_js_s (pay := m_pf F s 1 r) (H := s 0) (n := n.toNat) (i := i)
              have pk := d6 l4 (by omega) (by omega) l3 (by omega) (by omega)
              have ix := l_idx (n := n) (sl := sl) (i := l4) (u := l3) (by omega) (by omega) (by omega)
              rw [show (sl - l3).toNat = l_js (m_pf F s 1 r) (s 0) n.toNat i by omega, show (n - (l4 + 1)).toNat = n.toNat - (i + 1) by omega, d1, show ((i : Nat) : Int) + 1 = ((i + 1 : Nat) : Int) by omega, ← jd, ← d1] at pk
              refine b33_118 ?_
              try simp only [w_Ug, reduceIte, Nat.reduceEqDiff, Int.reduceEq, eq_self, d4, pk]
              repeat' (first | apply And.intro | intro)
              all_goals (try first | omega | contradiction | exact Or.inl trivial | exact Or.inr trivial)
              have gl : m_gL F s n r i = l4 + (sl - l_js (m_pf F s 1 r) (s 0) n.toNat (i + 1)) := by
                unfold m_gL l_at
                omega
              refine ih (i + 1) _ _ _ (by omega) (by omega) rfl (w_frU d3 rfl) d4 d5 d6 d7 d8 (fun i' hi' => ?_)
              rw [w_Ug, if_pos rfl]
              by_cases e : i' = i
              · subst e; rw [if_pos (by omega)]; exact gl.symm
              · rw [if_neg (by omega)]; exact d9 i' (by omega)
          refine b33_71 ?_
          try simp only [w_Ug, reduceIte, Nat.reduceEqDiff, Int.reduceEq, eq_self, ev]
          repeat' (first | apply And.intro | intro)
          all_goals (try first | omega | contradiction | exact Or.inl trivial | exact Or.inr trivial)
          refine walk n.toNat 0 0 0 _ (by omega) rfl ?_ (w_frU (w_frU a2 rfl) rfl) a3 a4 a7 ?_ ?_ (fun i' hi' => by omega)
          · show (0 : Int) = sl - (((s 0 - n.toNat).toNat : Nat) : Int)
            omega
          · simp only [w_Ug, reduceIte, Nat.reduceEqDiff, Int.reduceEq]
            omega
          · simp only [w_Ug, reduceIte, Nat.reduceEqDiff, Int.reduceEq]
            omega
        | succ m ih =>
          intro l3 u4 I4 a0 a1 a2 a3 a4 a5 a6 a7
          have rf4 := pE_rf a2 rf
          have cd4 := c_cd_fr cd a2 (fun _ => rfl) (fun _ => rfl) (fun _ => rfl)
          have fF := inF l3 (by omega) a1
          refine b33_71 ?_
          try simp only [w_Ug, reduceIte, Nat.reduceEqDiff, Int.reduceEq, eq_self, if_true]
          repeat' (first | apply And.intro | intro)
          all_goals (try first | omega | contradiction | exact Or.inl trivial | exact Or.inr trivial)
          refine c34 (H := s 0) (k := (n - (l3 + 1)).toNat) (r := r) rf4 w cd4 a5 (by omega) (by omega) (by rw [a4]) fF (c_hm rf4 wf fF) a6 (fun I5 fr5 b5 p5 o5 => b33_81 ?_)
          refine ih (l3 + -1) _ I5 (by omega) (by omega) (w_frt a2 (p34_E fr5)) (by rw [fr5 78 6 rfl]; exact a3) ((w_frA fr5 (fun _ => rfl)).trans a4) ?_ ?_ (fun i x y => ?_)
          · unfold c_ag
            rw [w_frA (a := 82) fr5 (fun _ => rfl), w_frA (a := 83) fr5 (fun _ => rfl)]
            exact a5
          · rw [show l3 + -1 + 1 = l3 by omega, show (n - l3).toNat = (n - (l3 + 1)).toNat + 1 by omega]
            exact b5
          · by_cases e : i = l3
            · subst e; exact p5
            · intro u x1 y1
              have := l_idx_lt (sl := sl) (i := l3) (i' := i) (u := sl) (u' := u) (by omega) (by omega) ⟨x1, y1⟩
              rw [o5 _ (Or.inr this)]
              exact a7 i (by omega) y u x1 y1
      refine loop n.toNat (n - 1) _ I3 (by omega) (by omega) fr3 e3 r3 ag3 (fun u x y => ?_) (fun i x y => by omega)
      rw [z3 u x (by omega), show (n - (n - 1 + 1)).toNat = 0 by omega]
      rfl
theorem c35 {n f : Int} {r : Int → Int} {F : m_F} (hn : I 78 6 = n) (hb : 0 ≤ n ∧ n ≤ 24) (hf : w_in f) (h84 : ∀ i, 0 ≤ i → i < n → I 84 i = r i ∧ w_in (r i)) (h88 : ∀ i : Nat, i < n → I 88 i = m_gL F s n r i) (hat : ∃ i, 0 ≤ i ∧ i < n ∧ r i = f) (inj : ∀ i j, 0 ≤ i → i < j → j < n → r i ≠ r j)
    (k : Q (some (w_i (m_ato F s n r f n.toNat))) I J b) : w_C xs xl 35 [.ref 85, w_i f] I J b Q := by
  obtain ⟨i, i0, i1, i2⟩ := hat
  have ato := m_ato_at (F := F) (s := s) (n := n) (r := r) (f := f) (i := i.toNat) (by rw [show ((i.toNat : Nat) : Int) = i by omega]; exact i2) n.toNat (by omega) (fun j a d e => inj i j i0 (by omega) (by omega) (by rw [i2, e]))
  have g := h88 i.toNat (by omega)
  unfold m_gL at g
  rw [ato, ← g, show ((i.toNat : Nat) : Int) = i by omega] at k
  refine e35 (b35_0 ?_)
  have loop : ∀ (m : Nat) (l2 : Int), l2 + m = i → 0 ≤ l2 → w_T xs xl 35 2 [some (.ref 85), some (w_i f), some (w_i l2)] [] [] I J b Q := by
    intro m
    induction m with
    | zero =>
      intro l2 a0 a1
      have e : l2 = i := by omega
      subst e
      have e2 := (h84 l2 a1 i1).1
      rw [i2] at e2
      refine b35_2 ?_
      try simp only [w_Ug, reduceIte, Nat.reduceEqDiff, Int.reduceEq, eq_self, hn, e2]
      repeat' (first | apply And.intro | intro)
      all_goals (try first | omega | contradiction | exact Or.inl trivial | exact Or.inr trivial)
    | succ m ih =>
      intro l2 a0 a1
      obtain ⟨e2, e3⟩ := h84 l2 a1 (by omega)
      have hne : r l2 ≠ f := fun e => inj l2 i a1 (by omega) i1 (by rw [e, i2])
      refine b35_2 ?_
      try simp only [w_Ug, reduceIte, Nat.reduceEqDiff, Int.reduceEq, eq_self, hn, e2]
      repeat' (first | apply And.intro | intro)
      all_goals (try first | omega | contradiction | exact Or.inl trivial | exact Or.inr trivial)
      exact ih (l2 + 1) (by omega) (by omega)
  exact loop i.toNat 0 (by omega) (by omega)
theorem c36 {c n : Int} {r : Int → Int} {rk : Int → Int} {g : Nat → Int} (rf : c_rf 20 I s) (wf : m_wf s) (hc : m_cm s c) (hr : r_ok n r (m_S s c) rk) (hg : g_up g n (s 0)) (hn : I 78 6 = n) (h84 : ∀ i, 0 ≤ i → i < n → I 84 i = r i) (h88 : ∀ i : Nat, i < n → I 88 i = g i) (hb : n ≤ 24)
    (k : ∀ I', w_fr pF I I' → c_rf 20 I' (m_setN s r g n.toNat) → Q none I' J b) : w_C xs xl 36 [.ref 85] I J b Q := by
  have w0 := wf.1.1
  have n0 := hr.1
  refine e36 (b36_0 ?_)
  refine e3 (b3_0 ?_)
  refine f295_30 (fun I1 g1 z1 => b3_8 (b36_10 ?_))
  have fr1 : w_fr pF I I1 := fun a k e => by
    have : a ≠ 30 := by
      intro x
      subst x
      cases e
    rw [g1 a this]
  have loop : ∀ (m i : Nat) (l1 : Int) (I2 : w_I), (i : Int) + m = n → l1 = i → (∀ a, a ≠ 28 → a ≠ 30 → I2 a = I a) → (∀ j : Nat, j < i → I2 28 (r j) = g j) → (∀ f, (∀ j : Nat, j < i → r j ≠ f) → I2 28 f = I 28 f) → (∀ j : Nat, j < i → I2 30 (g j) = r j) → (∀ x, 0 ≤ x → x < 24 → (∀ j : Nat, j < i → g j ≠ x) → I2 30 x = -1) →
      w_T xs xl 36 12 [some (.ref 85), some (w_i l1)] [] [] I2 J b Q := by
    intro m
    induction m with
    | zero =>
      intro i l1 I2 a0 a1 a2 a3 a4 a5 a6
      have n2 : I2 78 6 = n := by rw [a2 78 (by decide) (by decide)]; exact hn
      have fr2 : w_fr pF I I2 := fun a k e => by
        have : a ≠ 28 ∧ a ≠ 30 := by
          constructor <;> (intro x; subst x; cases e)
        rw [a2 a this.1 this.2]
      have kk := k I2 fr2 (c_rf_set rf wf hc hr hg (fun a _ _ x y => a2 a x y) (fun j hj => a3 j (by omega)) (fun f hf => a4 f (fun j hj => hf j (by omega) (by omega))) (fun j hj => a5 j (by omega)) (fun x h0 h1 hx => a6 x h0 h1 (fun j hj => hx j (by omega))))
      refine b36_12 ?_
      try simp only [w_Ug, reduceIte, Nat.reduceEqDiff, Int.reduceEq, eq_self, n2]
      repeat' (first | apply And.intro | intro)
      all_goals (try first | omega | contradiction | exact Or.inl trivial | exact Or.inr trivial)
    | succ m ih =>
      intro i l1 I2 a0 a1 a2 a3 a4 a5 a6
      have n2 : I2 78 6 = n := by rw [a2 78 (by decide) (by decide)]; exact hn
      have x84 : I2 84 l1 = r l1 := by rw [a2 84 (by decide) (by decide)]; exact h84 l1 (by omega) (by omega)
      have x88 : I2 88 l1 = g i := by rw [a2 88 (by decide) (by decide), a1]; exact h88 i (by omega)
      have fb := m_S_in hc _ (hr.2.1 l1 (by omega) (by omega))
      have gb := hg.1 i (by omega)
      refine b36_12 ?_
      try simp only [w_Ug, reduceIte, Nat.reduceEqDiff, Int.reduceEq, eq_self, n2, x84, x88]
      repeat' (first | apply And.intro | intro)
      all_goals (try first | omega | contradiction | exact Or.inl trivial | exact Or.inr trivial)
      refine ih (i + 1) _ _ (by omega) (by omega) (fun a x y => by rw [w_Ua y, w_Ua x]; exact a2 a x y) (fun j hj => ?_) (fun f hf => ?_) (fun j hj => ?_) (fun x h0 h1 hx => ?_)
      · simp only [w_Ug, reduceIte, Nat.reduceEqDiff]
        by_cases e : j = i
        · subst e; rw [if_pos (by rw [a1])]
        · rw [if_neg (by rw [a1]; exact r_ok_ne hr (by omega) (by omega) (by omega))]
          exact a3 j (by omega)
      · simp only [w_Ug, reduceIte, Nat.reduceEqDiff]
        rw [if_neg (fun e => hf i (by omega) (by rw [← a1]; exact e.symm))]
        exact a4 f (fun j hj => hf j (by omega))
      · simp only [w_Ug, reduceIte, Nat.reduceEqDiff]
        by_cases e : j = i
        · subst e; rw [if_pos rfl, a1]
        · have := hg.2 j i (by omega) (by omega)
          rw [if_neg (by omega)]
          exact a5 j (by omega)
      · simp only [w_Ug, reduceIte, Nat.reduceEqDiff]
        rw [if_neg (fun e => hx i (by omega) e.symm)]
        exact a6 x h0 h1 (fun j hj => hx j (by omega))
  exact loop n.toNat 0 0 I1 (by omega) rfl (fun a x y => g1 a y) (fun j hj => by omega) (fun f hf => by rw [g1 28 (by decide)]) (fun j hj => by omega) (fun x h0 h1 hx => z1 x h0 h1)
end
