section
/-! years: the class, the rest -/
variable {xs : Nat → Int32} {xl : Nat} {I J : w_I} {b : Bool} {Q : Option Value → w_I → w_I → Bool → Prop}
variable {s : Int → Int}
theorem py0_rf {I I' : w_I} (h : w_fr pK I I') (rf : c_rf 20 I s) : c_rf 20 I' s := pK_rf h rf
theorem c39 {F : m_F} (rf : c_rf 20 I s) (rt : c_rt I s) (wf : m_wf s) (cd : c_cd (I 5) (I 6) (I 7) F s)
    (k1 : m_any F s ≠ 0 → ∀ I', w_fr py0 I I' → c_rf 20 I' s → Q (some (w_i 1)) I' J b) (k0 : m_any F s = 0 → ∀ I', w_fr py0 I I' → c_rf 20 I' s → Q (some (w_i 0)) I' J b) : w_C xs xl 39 [.ref 103] I J b Q := by
  have w0 := wf.1.1
  refine e39 (b39_0 ?_)
  refine c21 rf rt wf (fun I1 f1 z1 => b39_7 ?_)
  have fr1 := pA_fr f1
  have rf1 := pA_rf fr1 rf
  have rt1 := pA_rt fr1 rt
  have cd1 : c_cd (I1 5) (I1 6) (I1 7) F s := py0_cd (pA_y fr1) cd
  refine c25 (F := F) (U := m_U F s 0 (s 3)) rf1 rt1 wf cd1 z1 (by decide) (fun a d _ _ _ => m_U_iff) (fun I2 fr2 _ => ?_)
  have ua := u_scan_any (U := m_U F s 0 (s 3)) (H := s 0) 700 0 1 (by omega) (by omega)
  have ub := u_scan_in (U := m_U F s 0 (s 3)) (H := s 0) (i := 0) (by omega) 700 0 1 0 (by omega) (by omega) (by omega)
  have f2 := w_frt (pA_y fr1) (pW_y fr2)
  have rf2 : c_rf 20 I2 s := c_rf_fr (fun x h1 h2 => w_frA fr2 (fun k => by
    simp only [pW, pV, p96, Bool.or_eq_false_iff, Bool.and_eq_false_iff, beq_eq_false_iff_ne, ne_eq]
    omega)) rf1
  by_cases c1 : m_any F s = 0
  · have e : (u_scan (m_U F s 0 (s 3)) (s 0) 0 700 0 1 0).1 = -1 := ua.1.mpr c1
    have kk := k0 c1 I2 f2 rf2
    rw [e]
    refine b39_15 ?_
    try simp only [w_Ug, reduceIte, Nat.reduceEqDiff, Int.reduceEq, eq_self, if_true]
    repeat' (first | apply And.intro | intro)
    all_goals (try first | omega | contradiction | exact Or.inl trivial | exact Or.inr trivial)
  · have e : ¬ (u_scan (m_U F s 0 (s 3)) (s 0) 0 700 0 1 0).1 = -1 := fun x => c1 (ua.1.mp x)
    have kk := k1 c1 I2 f2 rf2
    refine b39_15 ?_
    try simp only [w_Ug, reduceIte, Nat.reduceEqDiff, Int.reduceEq, eq_self, if_true]
    repeat' (first | apply And.intro | intro)
    all_goals (try first | omega | contradiction | exact Or.inl trivial | exact Or.inr trivial)
/-- the same people counted by their houses -/
theorem y_bl_e {I : w_I} {c : Int} (rf : c_rf 20 I s) (wf : m_wf s) : m_sum (fun h => if I 30 h ≠ -1 ∧ m_kf s (s 1) (I 30 h) ≤ m_kf s (s 1) c then 1 else 0) (s 0).toNat = y_bl s c := by
  have w := wf.1
  have w0 := w.1
  simp only [c_rf, Nat.reduceAdd] at rf
  obtain ⟨-, -, -, -, -, -, rh, -⟩ := rf
  have e1 : m_sum (fun h => if I 30 h ≠ -1 ∧ m_kf s (s 1) (I 30 h) ≤ m_kf s (s 1) c then 1 else 0) (s 0).toNat = m_sum (fun h => m_sum (fun f => if (m_isF s f ∧ s (460 + 3 * f + 1) = h) ∧ m_kf s (s 1) f ≤ m_kf s (s 1) c then 1 else 0) (s 8).toNat) (s 0).toNat := by
    refine m_sum_c _ (fun h hh => ?_)
    have rh := rh h (by omega) (by omega)
    try dsimp only
    by_cases c1 : I 30 (h : Int) = -1
    · rw [if_neg (fun x => x.1 c1), m_sum_nil _ (fun f hf => if_neg (fun x => rh.1 c1 f x.1.1 x.1.2))]
    · obtain ⟨q1, q2⟩ := rh.2 c1
      have q11 := q1.1
      have q12 := q1.2.1
      have ej : (((I 30 (h : Int)).toNat : Nat) : Int) = I 30 h := by omega
      rw [m_sum_one (j := (I 30 (h : Int)).toNat) (s 8).toNat (by omega) (fun f hf hne => if_neg (fun x => by
        have := wf.2.2.2 f (I 30 h) x.1.1 q1 (by omega) (by omega)
        omega))]
      rw [ej]
      by_cases c2 : m_kf s (s 1) (I 30 h) ≤ m_kf s (s 1) c
      · rw [if_pos ⟨c1, c2⟩, if_pos ⟨⟨q1, q2⟩, c2⟩]
      · rw [if_neg (fun x => c2 x.2), if_neg (fun x => c2 x.2)]
  rw [e1, m_sum_sw]
  unfold y_bl
  refine m_sum_c _ (fun f hf => ?_)
  have w3 := w.2.2.2.1 f (by omega) (by omega)
  try dsimp only
  by_cases c1 : m_lvg s f ∧ m_kf s (s 1) f ≤ m_kf s (s 1) c
  · have h0 := c1.1.2
    rw [if_pos c1, m_sum_one (j := (s (460 + 3 * (f : Int) + 1)).toNat) (s 0).toNat (by omega) (fun h hh hne => if_neg (fun x => by
      have := x.1.2
      omega))]
    exact if_pos ⟨⟨c1.1.1, by omega⟩, c1.2⟩
  · rw [if_neg c1]
    exact m_sum_nil _ (fun h hh => if_neg (fun x => c1 ⟨⟨x.1.1, by have := x.1.2; omega⟩, x.2⟩))
theorem c47 {c : Int} (rf : c_rf 20 I s) (rt : c_rt I s) (wf : m_wf s) (hc : m_isF s c) (k : ∀ I', w_fr pA I I' → Q (some (w_i (y_bl s c))) I' J b) : w_C xs xl 47 [.ref 103, w_i c] I J b Q := by
  have w0 := wf.1.1
  have c0 := hc.1
  have c1 := hc.2.1
  refine e47 (b47_0 ?_)
  refine c21 rf rt wf (fun I1 f1 z1 => b47_7 ?_)
  have fr1 := pA_fr f1
  have rf1 := pA_rf fr1 rf
  have rt1 := pA_rt fr1 rt
  have k := k I1 fr1
  rw [← y_bl_e rf1 wf] at k
  have z1 : ∀ f, 0 ≤ f → f < s 8 → I1 83 f = m_kf s (s 1) f := fun f x y => (z1 f x y).2
  have zc := z1 c c0 c1
  have kc := m_kf_b wf.1 (st := s 1) (g := c) (by omega)
  have t5 : I1 2 5 = s 0 := rt1.1
  have rf' := rf1
  simp only [c_rf, Nat.reduceAdd] at rf'
  obtain ⟨-, -, -, -, -, -, rh, -⟩ := rf'
  have loop : ∀ (m q : Nat) (l2 : Int) (u4 : Option Value), (q : Int) + m = s 0 → l2 = m_sum (fun h => if I1 30 h ≠ -1 ∧ m_kf s (s 1) (I1 30 h) ≤ m_kf s (s 1) c then 1 else 0) q → 0 ≤ l2 → l2 ≤ q → w_T xs xl 47 11 [some (.ref 103), some (w_i c), some (w_i l2), some (w_i q), u4] [] [] I1 J b Q := by
    intro m
    induction m with
    | zero =>
      intro q l2 u4 a0 a1 a2 a3
      rw [show (s 0).toNat = q by omega, ← a1] at k
      refine b47_11 ?_
      try simp only [w_Ug, reduceIte, Nat.reduceEqDiff, Int.reduceEq, eq_self, t5]
      repeat' (first | apply And.intro | intro)
      all_goals (try first | omega | contradiction | exact Or.inl trivial | exact Or.inr trivial)
    | succ m ih =>
      intro q l2 u4 a0 a1 a2 a3
      have rh := rh q (by omega) (by omega)
      by_cases x : I1 30 q = -1
      · refine b47_11 ?_
        try simp only [w_Ug, reduceIte, Nat.reduceEqDiff, Int.reduceEq, eq_self, t5]
        repeat' (first | apply And.intro | intro)
        all_goals (try first | omega | contradiction | exact Or.inl trivial | exact Or.inr trivial)
        rw [show (q : Int) + 1 = ((q + 1 : Nat) : Int) by omega]
        refine ih (q + 1) _ _ (by omega) ?_ (by omega) (by omega)
        rw [m_sum_s, ← a1, if_neg (fun z => z.1 x)]
        omega
      · have q1 := (rh.2 x).1
        have q11 := q1.1
        have q12 := q1.2.1
        have zd := z1 _ q11 q12
        have kd := m_kf_b wf.1 (st := s 1) (g := I1 30 q) (by omega)
        refine b47_11 ?_
        try simp only [w_Ug, reduceIte, Nat.reduceEqDiff, Int.reduceEq, eq_self, t5, zd, zc]
        repeat' (first | apply And.intro | intro)
        all_goals (try first | omega | contradiction | exact Or.inl trivial | exact Or.inr trivial)
        · rename_i y
          rw [show (q : Int) + 1 = ((q + 1 : Nat) : Int) by omega]
          refine ih (q + 1) _ _ (by omega) ?_ (by omega) (by omega)
          rw [m_sum_s, ← a1, if_neg (fun z => by have := z.2; omega)]
          omega
        · rename_i y
          rw [show (q : Int) + 1 = ((q + 1 : Nat) : Int) by omega]
          refine ih (q + 1) _ _ (by omega) ?_ (by omega) (by omega)
          rw [m_sum_s, ← a1, if_pos ⟨x, by omega⟩]
  exact loop (s 0).toNat 0 0 _ (by omega) rfl (by omega) (by omega)
theorem c46 {c p : Int} (rf : c_rf 20 I s) (rt : c_rt I s) (wf : m_wf s) (hc : y_cp s c p) (k : ∀ I' s', w_fr py0 I I' → y_nr s c p s' → c_rf 20 I' s' → Q none I' J b) : w_C xs xl 46 [.ref 103, w_i c] I J b Q := by
  have w := wf.1
  have w0 := w.1
  refine e46 (b46_0 ?_)
  by_cases hn : c = -1
  · have kk := k I s w_frr (Or.inl ⟨hn, rfl⟩) rf
    subst hn
    exact ⟨by decide, fun x => absurd rfl x, fun _ => kk⟩
  · have hF : m_isF s c := by
      rcases hc with x | x
      · exact absurd x.1 hn
      · exact x.1.1
    have c0 := hF.1
    have c1 := hF.2.1
    refine ⟨by omega, fun _ => ?_, fun x => absurd x hn⟩
    refine c47 rf rt wf hF (fun I1 fr1 => b46_11 ?_)
    have rf1 := pA_rf fr1 rf
    have rt1 := pA_rt fr1 rt
    have t5 : I1 2 5 = s 0 := rt1.1
    have bl : 0 ≤ y_bl s c ∧ y_bl s c ≤ 30 := by
      have := m_sum_b (P := fun g => if m_lvg s g ∧ m_kf s (s 1) g ≤ m_kf s (s 1) c then 1 else 0) (lo := 0) (hi := 1) (s 8).toNat (fun i _ => by split <;> decide)
      unfold y_bl
      omega
    have dw : ∀ h : Int, 0 ≤ h → h < 24 → (I1 30 h = -1 ↔ m_dw s h < 0) ∧ w_in (I1 30 h) := by
      intro h h0 h1
      have rf' := rf1
      simp only [c_rf, Nat.reduceAdd] at rf'
      obtain ⟨-, -, -, -, -, -, rh, -⟩ := rf'
      have rh := rh h h0 h1
      by_cases x : I1 30 h = -1
      · rw [m_dw_e (rh.1 x), x]; exact ⟨⟨fun _ => by omega, fun _ => rfl⟩, by decide⟩
      · obtain ⟨q1, q2⟩ := rh.2 x
        rw [m_dw_f wf q1 q2 h0]
        have := q1.1
        have := q1.2.1
        exact ⟨⟨fun y => absurd y x, fun y => by omega⟩, by omega⟩
    have loop : ∀ (m q : Nat) (u5 : Option Value), (q : Int) + m = s 0 → w_T xs xl 46 17 [some (.ref 103), some (w_i c), some (w_i (y_bl s c)), some (w_i (y_nb s (y_bl s c) q)), some (w_i q), u5] [] [] I1 J b Q := by
      intro m
      induction m with
      | zero =>
        intro q u5 a0
        have nb := y_nb_b (s := s) (wd := y_bl s c) q
        have eq : (s 0).toNat = q := by omega
        by_cases x : y_nb s (y_bl s c) q = -1
        · refine b46_17 ?_
          try simp only [w_Ug, reduceIte, Nat.reduceEqDiff, Int.reduceEq, eq_self, t5]
          repeat' (first | apply And.intro | intro)
          all_goals (try first | omega | contradiction | exact Or.inl trivial | exact Or.inr trivial)
          refine c44 rf1 wf hc hn (fun I2 fr2 r2 => b46_101 ?_)
          exact k I2 _ (w_frt (pA_y fr1) (pF_y fr2)) (Or.inr ⟨hn, Or.inl ⟨by rw [eq]; omega, rfl⟩⟩) r2
        · have em := m_dw_emp wf (nb.2.2 (by omega)) (by omega)
          refine b46_17 ?_
          try simp only [w_Ug, reduceIte, Nat.reduceEqDiff, Int.reduceEq, eq_self, t5]
          repeat' (first | apply And.intro | intro)
          all_goals (try first | omega | contradiction | exact Or.inl trivial | exact Or.inr trivial)
          refine c16 rf1 wf hF ⟨by omega, by omega, em⟩ (fun I2 fr2 r2 => b46_116 ?_)
          refine k I2 _ (w_frt (pA_y fr1) (pF_y fr2)) (Or.inr ⟨hn, Or.inr ⟨by rw [eq]; omega, rfl⟩⟩) ?_
          rw [eq]
          exact r2
      | succ m ih =>
        intro q u5 a0
        have nb := y_nb_b (s := s) (wd := y_bl s c) q
        have ns := y_nb_s (s := s) (wd := y_bl s c) (h := q)
        obtain ⟨d1, d2⟩ := dw q (by omega) (by omega)
        have nx := ih (q + 1)
        rw [ns, show ((q + 1 : Nat) : Int) = (q : Int) + 1 by omega] at nx
        have nx := fun u5 => nx u5 (by omega)
        generalize y_nb s (y_bl s c) q = B at nb nx ⊢
        generalize y_bl s c = wd at bl nx ⊢
        by_cases x : I1 30 q = -1
        · have dd := d1.mp x
          by_cases y : B = -1
          · have nx := fun u5 => nx u5
            rw [if_pos ⟨dd, Or.inl (by omega)⟩] at nx
            refine b46_17 ?_
            try simp only [w_Ug, reduceIte, Nat.reduceEqDiff, Int.reduceEq, eq_self, t5]
            repeat' (first | apply And.intro | intro)
            all_goals (try first | omega | contradiction | exact Or.inl trivial | exact Or.inr trivial)
            all_goals exact nx _
          · by_cases z : y_ab ((q : Int) - wd) < y_ab (B - wd)
            · rw [if_pos ⟨dd, Or.inr z⟩] at nx
              simp only [y_ab] at z
              refine b46_17 ?_
              try simp only [w_Ug, reduceIte, Nat.reduceEqDiff, Int.reduceEq, eq_self, t5]
              repeat' (first | apply And.intro | intro)
              all_goals (try first | omega | contradiction | exact Or.inl trivial | exact Or.inr trivial)
              all_goals exact nx _
            · rw [if_neg (fun t => by
                rcases t.2 with t | t
                · omega
                · exact z t)] at nx
              simp only [y_ab] at z
              refine b46_17 ?_
              try simp only [w_Ug, reduceIte, Nat.reduceEqDiff, Int.reduceEq, eq_self, t5]
              repeat' (first | apply And.intro | intro)
              all_goals (try first | omega | contradiction | exact Or.inl trivial | exact Or.inr trivial)
              all_goals exact nx _
        · rw [if_neg (fun t => x (d1.mpr t.1))] at nx
          refine b46_17 ?_
          try simp only [w_Ug, reduceIte, Nat.reduceEqDiff, Int.reduceEq, eq_self, t5]
          repeat' (first | apply And.intro | intro)
          all_goals (try first | omega | contradiction | exact Or.inl trivial | exact Or.inr trivial)
          all_goals exact nx _
    exact loop (s 0).toNat 0 _ (by omega)
end
