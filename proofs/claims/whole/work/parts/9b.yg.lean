section
/-! call years: the reference -/
variable {xs : Nat → Int32} {xl : Nat} {I J : w_I} {b : Bool} {Q : Option Value → w_I → w_I → Bool → Prop}
variable {s : Int → Int}
/-- the row is put on the lowest places -/
theorem s282L {S : Int → Int} {c' n p : Int} {r : Int → Int} {rk : Int → Int} {u1 : Option Value} (hs : I 110 = S) (w : m_w0 S) (hn0 : 0 ≤ n ∧ n ≤ 32) (hnS : n ≤ S 0) (hr : ∀ i, 0 ≤ i → i < n → 0 ≤ r i ∧ r i < 30)
    (h36 : I 104 36 = n) (h126 : ∀ i, 0 ≤ i → i < n → I 126 i = r i) (h128 : ∀ i, 0 ≤ i → i < n → I 128 i = m_hm S (r i) ∧ -1 ≤ m_hm S (r i) ∧ m_hm S (r i) < 100)
    (k : ∀ I', w_fr pB I I' → I' 110 = m_setN S r (y_gS S n) n.toNat → Q (some (w_i (y_ct S n r n.toNat))) I' J b) : w_T xs xl 282 58 [some (.ref 104), u1, some (w_i 0), some (w_i 0)] [] [] I J b Q := by
  have w0 := w.1
  have loop : ∀ (m i : Nat) (I1 : w_I), (i : Int) + m = n → (∀ a, a ≠ 133 → I1 a = I a) → (∀ j : Nat, j < i → I1 133 j = y_gS S n j) → w_T xs xl 282 58 [some (.ref 104), u1, some (w_i (y_ct S n r i)), some (w_i i)] [] [] I1 J b Q := by
    intro m
    induction m with
    | zero =>
      intro i I1 a0 a1 a2
      have e36 : I1 104 36 = n := by rw [a1 104 (by decide)]; exact h36
      have hs1 : I1 110 = S := (a1 110 (by decide)).trans hs
      have f1 : w_fr pB I I1 := fun a k' e => by rw [a1 a (fun x => by subst x; cases e)]
      have cb := y_ct_b (s := S) (n := n) (r := r) i
      refine b282_58 ?_
      try simp only [w_Ug, reduceIte, Nat.reduceEqDiff, Int.reduceEq, eq_self, e36]
      repeat' (first | apply And.intro | intro)
      all_goals (try first | omega | contradiction | exact Or.inl trivial | exact Or.inr trivial)
      refine s249 (g := y_gS S n) hs1 e36 hn0 (fun j x y => ⟨by rw [a1 126 (by decide)]; exact h126 j x y, hr j x y⟩) (fun j hj => a2 j (by omega)) (fun I2 fr2 e2 => b282_127 ?_)
      have kk := k I2 (w_frt f1 (p110_B fr2)) e2
      rw [show n.toNat = i by omega] at kk
      exact kk
    | succ m ih =>
      intro i I1 a0 a1 a2
      have e36 : I1 104 36 = n := by rw [a1 104 (by decide)]; exact h36
      have hs1 : I1 110 = S := (a1 110 (by decide)).trans hs
      have cb := y_ct_b (s := S) (n := n) (r := r) i
      have e128 : I1 128 i = m_hm S (r i) := by rw [a1 128 (by decide)]; exact (h128 i (by omega) (by omega)).1
      have hb := (h128 i (by omega) (by omega)).2
      have cs : y_ct S n r (i + 1) = y_ct S n r i + if 0 ≤ m_hm S (r i) ∧ m_hm S (r i) ≠ S 0 - n + i then 1 else 0 := rfl
      have nx : ∀ v, v = y_ct S n r (i + 1) → w_T xs xl 282 58 [some (.ref 104), u1, some (w_i v), some (w_i (i + 1))] [] [] (w_U I1 133 i (S 0 - n + i)) J b Q := by
        intro v hv
        rw [hv, show (i : Int) + 1 = ((i + 1 : Nat) : Int) by omega]
        refine ih (i + 1) _ (by omega) (fun a ha => by rw [w_Ua ha]; exact a1 a ha) (fun j hj => ?_)
        rw [w_Ug, if_pos rfl]
        by_cases e : j = i
        · subst e; rw [if_pos rfl]; rfl
        · rw [if_neg (by omega)]; exact a2 j (by omega)
      rw [cs] at nx
      generalize m_hm S (r i) = H at *
      by_cases c : 0 ≤ H ∧ H ≠ S 0 - n + i
      · rw [if_pos c] at nx
        refine b282_58 ?_
        try simp only [w_Ug, reduceIte, Nat.reduceEqDiff, Int.reduceEq, eq_self, e36, e128, hs1]
        repeat' (first | apply And.intro | intro)
        all_goals (try first | omega | contradiction | exact Or.inl trivial | exact Or.inr trivial)
        all_goals exact nx _ (by omega)
      · rw [if_neg c] at nx
        refine b282_58 ?_
        try simp only [w_Ug, reduceIte, Nat.reduceEqDiff, Int.reduceEq, eq_self, e36, e128, hs1]
        repeat' (first | apply And.intro | intro)
        all_goals (try first | omega | contradiction | exact Or.inl trivial | exact Or.inr trivial)
        all_goals exact nx _ (by omega)
  exact loop n.toNat 0 I (by omega) (fun _ _ => rfl) (fun j hj => by omega)
theorem s282 {F : m_F} {s' : Int → Int} {c p mv : Int} (hs : I 110 = s) (wf : m_wf s) (hc : y_cp s c p) (hy : y_st s c p s' mv)
    (k : ∀ I', w_fr pB I I' → I' 110 = s' → Q (some (w_i mv)) I' J b) : w_C xs xl 282 [.ref 104, w_i p] I J b Q := by
  have w := wf.1
  have w0 := w.1
  obtain ⟨n, r, hr, h⟩ := hy
  have n0 := hr.1
  have nb := m_row_b wf hr
  refine e282 (b282_0 ?_)
  rw [hs]
  refine s238 hs wf (by omega) hr (fun I1 fr1 e36 q1 r1 => ?_)
  have hs1 : I1 110 = s := (w_frA fr1 (fun _ => rfl)).trans hs
  have f1 := pJ_B (pR_J fr1)
  have h128 : ∀ i, 0 ≤ i → i < n → I1 128 i = m_hm s (r i) := fun i x y => by rw [(q1.2 i x y).2.1, r1 i x y]
  have hmb : ∀ i, 0 ≤ i → i < n → -1 ≤ m_hm s (r i) ∧ m_hm s (r i) < 100 := fun i x y => by
    have := m_hm_b w (m_S_F (Or.inl rfl) _ (hr.2.1 i x y))
    omega
  have rb : ∀ i, 0 ≤ i → i < n → 0 ≤ r i ∧ r i < 30 := fun i x y => by
    have := m_S_in (Or.inl rfl) _ (hr.2.1 i x y)
    omega
  rcases h with ⟨h1, h2, h3⟩ | ⟨h1, h2, h3, h4⟩ | ⟨h1, h2, r', hr', h3, h4⟩
  · have ep : p = -1 := by
      rcases hc with x | x
      · exact x.2
      · have := x.1.1.1; omega
    subst ep
    refine b282_11 ?_
    try simp only [w_Ug, reduceIte, Nat.reduceEqDiff, Int.reduceEq, eq_self, if_true]
    repeat' (first | apply And.intro | intro)
    all_goals (try first | omega | contradiction | exact Or.inl trivial | exact Or.inr trivial)
    refine s282L (c' := -1) (p := -1) (rk := fun _ => 0) hs1 w (by omega) nb rb e36 (fun i x y => r1 i x y) (fun i x y => ⟨h128 i x y, hmb i x y⟩) (fun I2 fr2 e2 => ?_)
    have kk := k I2 (w_frt f1 fr2) (by rw [e2, h2])
    rw [h3] at kk
    exact kk
  · have hc0 := hc
    rcases hc with x | ⟨q1', q2, q3, q4⟩
    · exact absurd x.1 h1
    · have p1 := q2.1
      have p2 := q2.2.1
      have c0 := q1'.1.1
      have c1 := q1'.1.2.1
      have D := y_K_die wf q2
      have d0 := D.1.2.1 0 (by omega)
      refine b282_11 ?_
      try simp only [w_Ug, reduceIte, Nat.reduceEqDiff, Int.reduceEq, eq_self, e36, hs1]
      repeat' (first | apply And.intro | intro)
      all_goals (try first | omega | contradiction | exact Or.inl trivial | exact Or.inr trivial)
      refine s279 hs1 w q2 (fun I2 fr2 e2 => b282_33 ?_)
      have hm : ∀ i, 0 ≤ i → i < n → m_hm (m_die s p) (r i) = m_hm s (r i) := fun i x y => by
        have z := hr.2.1 i x y
        rcases z with z | z
        · have := m_die_fam wf q2 (f := r i) (fun e => by rw [e, q3] at z; have := z.2; omega) z.1.1
          unfold m_hm
          rw [this.2.2]
        · exact absurd rfl z.2
      refine s282L (S := m_die s p) (c' := -1) (p := -1) (rk := fun _ => 0) e2 D.1.1.1 (by omega) (by omega) rb (by rw [fr2 104 36 rfl]; exact e36) (fun i x y => by rw [fr2 126 i rfl]; exact r1 i x y) (fun i x y => by rw [fr2 128 i rfl, hm i x y]; exact ⟨h128 i x y, hmb i x y⟩) (fun I3 fr3 e3 => ?_)
      have kk := k I3 (w_frt f1 (w_frt (pS_B fr2) fr3)) (by rw [e3, h3])
      rw [h4] at kk
      exact kk
  · have hc0 := hc
    rcases hc with x | ⟨q1', q2, q3, q4⟩
    · exact absurd x.1 h1
    · have p1 := q2.1
      have p2 := q2.2.1
      have c0 := q1'.1.1
      have c1 := q1'.1.2.1
      have ec : I1 110 (100 + 6 * p + 5) = c := by rw [hs1]; exact q3
      refine b282_11 ?_
      try simp only [w_Ug, reduceIte, Nat.reduceEqDiff, Int.reduceEq, eq_self, e36, hs1]
      repeat' (first | apply And.intro | intro)
      all_goals (try first | omega | contradiction | exact Or.inl trivial | exact Or.inr trivial)
      rw [← hs1, ec]
      refine s239 hs1 wf ⟨q1'.1, by have := q1'.2; omega⟩ e36 (by omega) q1 hr' (fun I2 fr2 e2 q5 r2 => b282_54 ?_)
      have hs2 : I2 110 = s := (w_frA fr2 (fun _ => rfl)).trans hs1
      refine s282L (c' := c) (p := p) (rk := fun _ => 0) hs2 w (by omega) (by omega) (fun i x y => ?_) e2 r2 (fun i x y => ?_) (fun I3 fr3 e3 => ?_)
      · have := m_S_in (Or.inr q1') _ (hr'.2.1 i x y)
        omega
      · have hmF := m_hm_b w (m_S_F (Or.inr q1') _ (hr'.2.1 i x y))
        exact ⟨by rw [(q5.2 i x y).2.1, r2 i x y], by omega, by omega⟩
      · have kk := k I3 (w_frt f1 (w_frt (pJ_B (pR_J fr2)) fr3)) (by rw [e3, h3])
        rw [h4] at kk
        exact kk
set_option maxHeartbeats 4000000 in
theorem s283 {F : m_F} {s' : Int → Int} {seed i rule mv : Int} (hs : I 110 = s) (hF : m_at I F) (wf : m_wf s) (cd : m_cd F s) (ht : ¬ m_tt s) (hi : 0 ≤ i ∧ i ≤ 40) (hr : 0 ≤ rule ∧ rule ≤ 3) (h9 : s 9 + 12 ≤ 1200) (hy : y_yr F seed (200 * i) rule s s' mv)
    (k : ∀ I', w_fr pB I I' → I' 110 = s' → Q (some (w_i mv)) I' J b) : w_C xs xl 283 [.ref 104, w_i seed, w_i i, w_i rule] I J b Q := by
  have w := wf.1
  have w0 := w.1
  obtain ⟨s2, s3, c, p, hs2, cm, hy⟩ := hy
  have w1 := m_wf_mon wf (n := s 9 + 12) (by omega)
  have eT1 : m_eqT s (u1 s 9 (s 9 + 12)) := fun k hk => by rw [u1g, if_neg (by omega)]
  have e7 : u1 s 9 (s 9 + 12) 7 = s 7 := by rw [u1g, if_neg (by decide)]
  have kd := (y_K_dth (F := F) (seed := seed) (wh := 200 * i) w1 (s 7).toNat)
  rw [← hs2] at kd
  obtain ⟨k3, cp⟩ := y_K_cm kd.1.1 cm
  have k13 := y_K_t kd.1 k3
  have eT3 : m_eqT s s3 := fun k hk => (k13.2.1 k hk).trans (eT1 k hk)
  have cd3 : m_cd F s3 := m_cd_T wf cd eT3
  have tt3 : ¬ m_tt s3 := fun x => ht ((m_tt_T wf eT3).mp x)
  -- the rules
  have r0 : ∀ (I3 : w_I) (u4 u5 : Option Value), w_fr pB I I3 → I3 110 = s3 → rule = 0 → w_C xs xl 280 [.ref 104, w_i p] I3 J b (fun v Ic Jc bc => w_T xs xl 283 195 [some (.ref 104), some (w_i seed), some (w_i i), some (w_i rule), u4, u5] [] (w_pv v []) Ic Jc bc Q) := by
    intro I3 u4 u5 f3 h3 hr0
    rcases hy with ⟨-, s4, m1, m2, y1, y2, y3⟩ | ⟨x, -⟩ | ⟨x, -⟩
    · have k4 : y_K s3 s4 ∧ 0 ≤ m1 ∧ m1 ≤ 24 := by
        rcases y1 with ⟨a, b, d⟩ | ⟨a, b⟩
        · subst b; exact ⟨y_K_rf k3.1, by omega, by omega⟩
        · exact y_K_ls k3.1 cp b
      have eT4 : m_eqT s s4 := fun k hk => (k4.1.2.1 k hk).trans (eT3 k hk)
      refine s280 (F := F) h3 (pB_F f3 hF) k3.1 cd3 tt3 cp y1 (fun I4 f4 h4 => b283_195 ?_)
      refine s278 (F := F) h4 (pB_F (w_frt f3 f4) hF) k4.1.1 (m_cd_T wf cd eT4) (fun x => ht ((m_tt_T wf eT4).mp x)) y2 (fun I5 f5 h5 => b283_203 ?_)
      have kk := k I5 (w_frt f3 (w_frt f4 f5)) h5
      rw [y3] at kk
      exact kk
    · omega
    · exact absurd hr0 x
  have r2 : ∀ (I3 : w_I) (u4 u5 : Option Value), w_fr pB I I3 → I3 110 = s3 → rule = 2 → w_C xs xl 282 [.ref 104, w_i p] I3 J b (fun v Ic Jc bc => w_T xs xl 283 216 [some (.ref 104), some (w_i seed), some (w_i i), some (w_i rule), u4, u5] [] (w_pv v []) Ic Jc bc Q) := by
    intro I3 u4 u5 f3 h3 hr2
    rcases hy with ⟨x, -⟩ | ⟨-, y1⟩ | ⟨-, x, -⟩
    · omega
    · exact s282 (F := F) h3 k3.1 cp y1 (fun I4 f4 h4 => b283_216 (k I4 (w_frt f3 f4) h4))
    · exact absurd hr2 x
  have r1 : ∀ (I3 : w_I) (u4 u5 : Option Value), w_fr pB I I3 → I3 110 = s3 → rule ≠ 0 → rule ≠ 2 → w_C xs xl 281 [.ref 104, w_i p] I3 J b (fun v Ic Jc bc => w_T xs xl 283 223 [some (.ref 104), some (w_i seed), some (w_i i), some (w_i rule), u4, u5] [] (w_pv v []) Ic Jc bc Q) := by
    intro I3 u4 u5 f3 h3 hr0 hr2
    rcases hy with ⟨x, -⟩ | ⟨x, -⟩ | ⟨-, -, s4, y1, y2⟩
    · exact absurd x hr0
    · exact absurd x hr2
    · have k4 := y_K_nr k3.1 cp y1
      have eT4 : m_eqT s s4 := fun k hk => (k4.2.1 k hk).trans (eT3 k hk)
      refine s281 h3 k3.1 cp y1 (fun I4 f4 h4 => ?_)
      have f4' := w_frt f3 f4
      have cd4 := m_cd_T wf cd eT4
      have any_b := m_any_b (s := s4) (F := F)
      by_cases c3 : rule = 3
      · refine b283_223 ?_
        try simp only [w_Ug, reduceIte, Nat.reduceEqDiff, Int.reduceEq, eq_self, if_true]
        repeat' (first | apply And.intro | intro)
        all_goals (try first | omega | contradiction | exact Or.inl trivial | exact Or.inr trivial)
        refine s233 (F := F) (U := m_U F s4 0 (s4 3)) (wh := 0) (t := 0) (by' := s4 3) h4 (pB_F f4' hF) k4.1 cd4 (by decide) (by decide) (by omega) (fun a d _ _ _ => m_U_iff) (fun I5 fr5 => ?_)
        show w_T xs xl 283 233 _ [] [w_i (m_any F s4)] I5 J b Q
        have f5 := w_frt f4' (pJ_B (pU_J fr5))
        have h5 : I5 110 = s4 := (w_frA fr5 (fun _ => rfl)).trans h4
        rcases y2 with ⟨-, z1, z2⟩ | ⟨z1, z2, z3⟩
        · refine b283_233 ?_
          try simp only [w_Ug, reduceIte, Nat.reduceEqDiff, Int.reduceEq, eq_self, if_true]
          repeat' (first | apply And.intro | intro)
          all_goals (try first | omega | contradiction | exact Or.inl trivial | exact Or.inr trivial)
          refine s278 (F := F) h5 (pB_F f5 hF) k4.1 cd4 (fun x => ht ((m_tt_T wf eT4).mp x)) z2 (fun I6 f6 h6 => b283_240 (k I6 (w_frt f5 f6) h6))
        · have hz : m_any F s4 = 0 := by
            apply Decidable.byContradiction
            intro x
            exact z1 ⟨c3, x⟩
          have kk := k I5 f5 (by rw [h5, z2])
          rw [z3] at kk
          refine b283_233 ?_
          try simp only [w_Ug, reduceIte, Nat.reduceEqDiff, Int.reduceEq, eq_self, if_true]
          repeat' (first | apply And.intro | intro)
          all_goals (try first | omega | contradiction | exact Or.inl trivial | exact Or.inr trivial)
      · rcases y2 with ⟨x, -⟩ | ⟨z1, z2, z3⟩
        · exact absurd x c3
        · have kk := k I4 f4' (by rw [h4, z2])
          rw [z3] at kk
          refine b283_223 ?_
          try simp only [w_Ug, reduceIte, Nat.reduceEqDiff, Int.reduceEq, eq_self, if_true]
          repeat' (first | apply And.intro | intro)
          all_goals (try first | omega | contradiction | exact Or.inl trivial | exact Or.inr trivial)
  refine e283 (b283_0 ?_)
  have f0 : w_fr pB I (w_U I 110 9 (I 110 9 + 12)) := w_frU w_frr rfl
  have h0 : (w_U I 110 9 (I 110 9 + 12)) 110 = u1 s 9 (s 9 + 12) := by rw [w_U1, hs]
  have loop : ∀ (m q : Nat) (u5 : Option Value) (I1 : w_I), (q : Int) + m = s 7 → w_fr pB I I1 → I1 110 = m_dth F seed (200 * i) (u1 s 9 (s 9 + 12)) q → w_T xs xl 283 15 [some (.ref 104), some (w_i seed), some (w_i i), some (w_i rule), some (w_i q), u5] [] [] I1 J b Q := by
    intro m
    induction m with
    | zero =>
      intro q u5 I1 a0 a1 a2
      have e : (s 7).toNat = q := by omega
      rw [e] at hs2
      rw [← hs2] at a2
      have w2 := kd.1.1.1.1
      have e27 : s2 7 = s 7 := kd.2.1.trans e7
      have lb := m_lot_b (seed := seed) (wh := 200 * i + 100) (m := 100) (by omega)
      rcases cm with ⟨yi, z1, z2, z3⟩ | ⟨yi, z1, z2, z3⟩
      · -- somebody comes
        have yl := yi.2
        have yk := yi.1
        refine b283_15 ?_
        try simp only [w_Ug, reduceIte, Nat.reduceEqDiff, Int.reduceEq, eq_self, a2]
        repeat' (first | apply And.intro | intro)
        all_goals (try first | omega | contradiction | exact Or.inl trivial | exact Or.inr trivial)
        refine s277 (by decide) ?_
        refine b283_132 ?_
        try simp only [w_Ug, reduceIte, Nat.reduceEqDiff, Int.reduceEq, eq_self, if_true]
        repeat' (first | apply And.intro | intro)
        all_goals (try first | omega | contradiction | exact Or.inl trivial | exact Or.inr trivial)
        refine s277 (n := 90) (by omega) (b283_151 ?_)
        refine s277 (by decide) ?_
        have lb9 := m_lot_b (seed := seed) (wh := 200 * i + 102) (m := 9) (by omega)
        have fin : ∀ l (u4 u5 : Option Value), l = (if m_lot seed (200 * i + 102) 9 = 0 then 1 else 0) → w_C xs xl 220 [.ref 104, w_i (m_lot seed (200 * i + 101) 90), w_i (m_lot seed (200 * i + 101) 90), w_i l] I1 J b (fun v Ic Jc bc => w_T xs xl 283 183 [some (.ref 104), some (w_i seed), some (w_i i), some (w_i rule), u4, u5] [] (w_pv v []) Ic Jc bc Q) := by
          intro l u4 u5 hl
          have l01 : l = 0 ∨ l = 1 := by
            rw [hl]
            split
            · exact Or.inr rfl
            · exact Or.inl rfl
          refine s220 a2 kd.1.1.1 yk.1 yk.2 l01 (fun I2 fr2 h2 => ?_)
          rw [← z3]
          have f2 := w_frt a1 (p110_B fr2)
          have h2' : I2 110 = s3 := by rw [h2, z1, hl]
          have pb : w_in p := by omega
          refine b283_183 ?_
          try simp only [w_Ug, reduceIte, Nat.reduceEqDiff, Int.reduceEq, eq_self, if_true]
          repeat' (first | apply And.intro | intro)
          all_goals (try first | omega | contradiction | exact Or.inl trivial | exact Or.inr trivial)
          · exact r1 I2 _ _ f2 h2' (by omega) (by omega)
          · exact r2 I2 _ _ f2 h2' (by omega)
          · exact r0 I2 _ _ f2 h2' (by omega)
        by_cases c2 : m_lot seed (200 * i + 102) 9 = 0
        · have ff := fun u4 u5 => fin 1 u4 u5 (by rw [if_pos c2])
          refine b283_172 ?_
          try simp only [w_Ug, reduceIte, Nat.reduceEqDiff, Int.reduceEq, eq_self, if_true]
          repeat' (first | apply And.intro | intro)
          all_goals (try first | omega | contradiction | exact Or.inl trivial | exact Or.inr trivial)
          all_goals exact ff _ _
        · have ff := fun u4 u5 => fin 0 u4 u5 (by rw [if_neg c2])
          refine b283_172 ?_
          try simp only [w_Ug, reduceIte, Nat.reduceEqDiff, Int.reduceEq, eq_self, if_true]
          repeat' (first | apply And.intro | intro)
          all_goals (try first | omega | contradiction | exact Or.inl trivial | exact Or.inr trivial)
          all_goals exact ff _ _
      · -- nobody comes
        have h3 : I1 110 = s3 := by rw [a2, z1]
        rw [z3] at r0 r1 r2
        by_cases c7 : 60 ≤ s2 7
        · refine b283_15 ?_
          try simp only [w_Ug, reduceIte, Nat.reduceEqDiff, Int.reduceEq, eq_self, a2]
          repeat' (first | apply And.intro | intro)
          all_goals (try first | omega | contradiction | exact Or.inl trivial | exact Or.inr trivial)
          · exact r1 I1 _ _ a1 h3 (by omega) (by omega)
          · exact r2 I1 _ _ a1 h3 (by omega)
          · exact r0 I1 _ _ a1 h3 (by omega)
        · by_cases c8 : 30 ≤ s2 8
          · refine b283_15 ?_
            try simp only [w_Ug, reduceIte, Nat.reduceEqDiff, Int.reduceEq, eq_self, a2]
            repeat' (first | apply And.intro | intro)
            all_goals (try first | omega | contradiction | exact Or.inl trivial | exact Or.inr trivial)
            · exact r1 I1 _ _ a1 h3 (by omega) (by omega)
            · exact r2 I1 _ _ a1 h3 (by omega)
            · exact r0 I1 _ _ a1 h3 (by omega)
          · have nl : ¬ m_lot seed (200 * i + 100) 100 < 50 := fun x => yi ⟨⟨by omega, by omega⟩, x⟩
            refine b283_15 ?_
            try simp only [w_Ug, reduceIte, Nat.reduceEqDiff, Int.reduceEq, eq_self, a2]
            repeat' (first | apply And.intro | intro)
            all_goals (try first | omega | contradiction | exact Or.inl trivial | exact Or.inr trivial)
            refine s277 (by decide) ?_
            refine b283_132 ?_
            try simp only [w_Ug, reduceIte, Nat.reduceEqDiff, Int.reduceEq, eq_self, if_true]
            repeat' (first | apply And.intro | intro)
            all_goals (try first | omega | contradiction | exact Or.inl trivial | exact Or.inr trivial)
            · exact r1 I1 _ _ a1 h3 (by omega) (by omega)
            · exact r2 I1 _ _ a1 h3 (by omega)
            · exact r0 I1 _ _ a1 h3 (by omega)
    | succ m ih =>
      intro q u5 I1 a0 a1 a2
      have kq := y_K_dth (F := F) (seed := seed) (wh := 200 * i) w1 q
      have ds := m_dth_s (F := F) (seed := seed) (wh := 200 * i) (s := u1 s 9 (s 9 + 12)) (p := q)
      have nxt : ∀ (u5 : Option Value) (I2 : w_I), w_fr pB I I2 → I2 110 = m_dth F seed (200 * i) (u1 s 9 (s 9 + 12)) (q + 1) → w_T xs xl 283 15 [some (.ref 104), some (w_i seed), some (w_i i), some (w_i rule), some (w_i (q + 1)), u5] [] [] I2 J b Q := fun u5 I2 f h => by
        rw [show (q : Int) + 1 = ((q + 1 : Nat) : Int) by omega]
        exact ih (q + 1) u5 I2 (by omega) f h
      generalize hS : m_dth F seed (200 * i) (u1 s 9 (s 9 + 12)) q = S at *
      obtain ⟨⟨wS, eT, e9⟩, k7, k8⟩ := kq
      rw [e7] at k7
      have eTS : m_eqT s S := fun k hk => (eT k hk).trans (eT1 k hk)
      have cdS := m_cd_T wf cd eTS
      have wq := wS.1.2.2.1 q (by omega) (by rw [k7]; omega)
      have lb := m_lot_b (seed := seed) (wh := 200 * i + q) (m := 100) (by omega)
      refine b283_15 ?_
      try simp only [w_Ug, reduceIte, Nat.reduceEqDiff, Int.reduceEq, eq_self, a2]
      repeat' (first | apply And.intro | intro)
      all_goals (try first | omega | contradiction | exact Or.inl trivial | exact Or.inr trivial)
      refine s210 a2 wS.1 (by omega) (fun hp => ?_) (fun hp => ?_)
      · have pb := m_pa_b wS.1 (p := q) (t := 0) (by omega)
        refine b283_33 ?_
        try simp only [w_Ug, reduceIte, Nat.reduceEqDiff, Int.reduceEq, eq_self, if_true]
        repeat' (first | apply And.intro | intro)
        all_goals (try first | omega | contradiction | exact Or.inl trivial | exact Or.inr trivial)
        refine s277 (n := 100) (by omega) (b283_50 ?_)
        refine s215 a2 wS.1 (by omega) (by decide) ?_
        refine b283_58 ?_
        try simp only [w_Ug, reduceIte, Nat.reduceEqDiff, Int.reduceEq, eq_self, a2]
        repeat' (first | apply And.intro | intro)
        all_goals (try first | omega | contradiction | exact Or.inl trivial | exact Or.inr trivial)
        refine s272 (F := F) a2 (pB_F a1 hF) cdS (by omega) (by omega) (fun I2 fr2 => ?_)
        have db := m_dieb_b (s := S) (F := F) (a := m_pa S q 0) (l := S (100 + 6 * (q : Int) + 3))
        have f2 := w_frt a1 (pJ_B (pC_J fr2))
        have h2 : I2 110 = S := (w_frA fr2 (fun _ => rfl)).trans a2
        by_cases c2 : m_lot seed (200 * i + q) 100 < m_dieb F S (m_pa S q 0) (S (100 + 6 * (q : Int) + 3))
        · rw [if_pos ⟨hp, c2⟩] at ds
          refine b283_76 ?_
          try simp only [w_Ug, reduceIte, Nat.reduceEqDiff, Int.reduceEq, eq_self, if_true]
          repeat' (first | apply And.intro | intro)
          all_goals (try first | omega | contradiction | exact Or.inl trivial | exact Or.inr trivial)
          refine s224 h2 wS.1 hp (fun I3 fr3 h3 => b283_85 (nxt _ I3 (w_frt f2 (pS_B fr3)) ?_))
          rw [ds]
          exact h3
        · rw [if_neg (fun z => c2 z.2)] at ds
          refine b283_76 ?_
          try simp only [w_Ug, reduceIte, Nat.reduceEqDiff, Int.reduceEq, eq_self, if_true]
          repeat' (first | apply And.intro | intro)
          all_goals (try first | omega | contradiction | exact Or.inl trivial | exact Or.inr trivial)
          refine nxt _ I2 f2 ?_
          rw [ds]
          exact h2
      · rw [if_neg (fun z => hp z.1)] at ds
        refine b283_33 ?_
        try simp only [w_Ug, reduceIte, Nat.reduceEqDiff, Int.reduceEq, eq_self, if_true]
        repeat' (first | apply And.intro | intro)
        all_goals (try first | omega | contradiction | exact Or.inl trivial | exact Or.inr trivial)
        refine nxt _ I1 a1 ?_
        rw [ds]
        exact a2
  exact loop (s 7).toNat 0 _ _ (by omega) f0 h0
theorem s284 {F : m_F} {s' : Int → Int} {seed n rule mv : Int} (hs : I 110 = s) (hF : m_at I F) (wf : m_wf s) (cd : m_cd F s) (hn : w_in n) (hr : w_in rule) (hy : m_yrk s n rule → ¬ m_tt s → y_ys F seed rule n.toNat 0 s s' mv)
    (kN : ¬ m_yrk s n rule → Q (some (w_i (-1))) I J b) (k0 : m_yrk s n rule → m_tt s → Q (some (w_i (-2))) I J b)
    (k1 : m_yrk s n rule → ¬ m_tt s → ∀ I', w_fr pB I I' → I' 110 = s' → Q (some (w_i mv)) I' J b) : w_C xs xl 284 [.ref 104, w_i seed, w_i n, w_i rule] I J b Q := by
  have w := wf.1
  have w0 := w.1
  refine e284 (b284_0 ?_)
  refine s209 hn (by decide) (by decide) (fun h1 => ?_) (fun h1 => ?_)
  · refine b284_7 ?_
    try simp only [w_Ug, reduceIte, Nat.reduceEqDiff, Int.reduceEq, eq_self, if_true]
    repeat' (first | apply And.intro | intro)
    all_goals (try first | omega | contradiction | exact Or.inl trivial | exact Or.inr trivial)
    refine s209 hr (by decide) (by decide) (fun h2 => ?_) (fun h2 => ?_)
    · by_cases h3 : s 9 + 12 * n ≤ 1200
      · have hk : m_yrk s n rule := ⟨h1, h2, h3⟩
        have k0 := k0 hk
        have k1 := k1 hk
        have hy := hy hk
        refine b284_16 ?_
        try simp only [w_Ug, reduceIte, Nat.reduceEqDiff, Int.reduceEq, eq_self, hs]
        repeat' (first | apply And.intro | intro)
        all_goals (try first | omega | contradiction | exact Or.inl trivial | exact Or.inr trivial)
        refine s236 hs w (fun ht => ?_) (fun ht => ?_)
        · have kk := k0 ht
          refine b284_43 ?_
          try simp only [w_Ug, reduceIte, Nat.reduceEqDiff, Int.reduceEq, eq_self, if_true]
          repeat' (first | apply And.intro | intro)
          all_goals (try first | omega | contradiction | exact Or.inl trivial | exact Or.inr trivial)
        · have k1 := k1 ht
          have hy := hy ht
          refine b284_43 ?_
          try simp only [w_Ug, reduceIte, Nat.reduceEqDiff, Int.reduceEq, eq_self, if_true]
          repeat' (first | apply And.intro | intro)
          all_goals (try first | omega | contradiction | exact Or.inl trivial | exact Or.inr trivial)
          have loop : ∀ (m : Nat) (i acc mm : Int) (E : Int → Int) (I1 : w_I), i + m = n → 0 ≤ i → (m_wf E ∧ m_eqT s E ∧ E 9 = s 9 + 12 * i) → w_fr pB I I1 → I1 110 = E → 0 ≤ acc ∧ acc ≤ 48 * i → y_ys F seed rule m i E s' mm → mv = acc + mm → w_T xs xl 284 55 [some (.ref 104), some (w_i seed), some (w_i n), some (w_i rule), some (w_i acc), some (w_i i)] [] [] I1 J b Q := by
            intro m
            induction m with
            | zero =>
              intro i acc mm E I1 b0 b1 b2 b3 b4 b5 b6 b7
              obtain ⟨x1, x2⟩ := b6
              have kk := k1 I1 b3 (by rw [b4, x1])
              rw [show mv = acc by omega] at kk
              refine b284_55 ?_
              try simp only [w_Ug, reduceIte, Nat.reduceEqDiff, Int.reduceEq, eq_self, if_true]
              repeat' (first | apply And.intro | intro)
              all_goals (try first | omega | contradiction | exact Or.inl trivial | exact Or.inr trivial)
            | succ m ih =>
              intro i acc mm E I1 b0 b1 b2 b3 b4 b5 b6 b7
              obtain ⟨s1, m1, m2, y1, y2, y3⟩ := b6
              have ok := y_yr_ok b2.1 (by have := b2.2.2; omega) y1
              refine b284_55 ?_
              try simp only [w_Ug, reduceIte, Nat.reduceEqDiff, Int.reduceEq, eq_self, if_true]
              repeat' (first | apply And.intro | intro)
              all_goals (try first | omega | contradiction | exact Or.inl trivial | exact Or.inr trivial)
              refine s283 (F := F) b4 (pB_F b3 hF) b2.1 (m_cd_T wf cd b2.2.1) (fun x => ht ((m_tt_T wf b2.2.1).mp x)) (by omega) h2 (by have := b2.2.2; omega) y1 (fun I2 f2 h2' => b284_71 ?_)
              exact ih (i + 1) (acc + m1) m2 s1 I2 (by omega) (by omega) ⟨ok.1.1, fun k hk => (ok.1.2.1 k hk).trans (b2.2.1 k hk), by rw [ok.1.2.2, b2.2.2]; omega⟩ (w_frt b3 f2) h2' (by omega) y2 (by omega)
          exact loop n.toNat 0 0 mv s I (by omega) (by omega) ⟨wf, fun _ _ => rfl, by omega⟩ w_frr hs (by omega) hy (by omega)
      · have kk := kN (fun x => h3 x.2.2)
        refine b284_16 ?_
        try simp only [w_Ug, reduceIte, Nat.reduceEqDiff, Int.reduceEq, eq_self, hs]
        repeat' (first | apply And.intro | intro)
        all_goals (try first | omega | contradiction | exact Or.inl trivial | exact Or.inr trivial)
    · have kk := kN (fun x => h2 x.2.1)
      refine b284_16 ?_
      try simp only [w_Ug, reduceIte, Nat.reduceEqDiff, Int.reduceEq, eq_self, hs]
      repeat' (first | apply And.intro | intro)
      all_goals (try first | omega | contradiction | exact Or.inl trivial | exact Or.inr trivial)
  · have kk := kN (fun x => h1 x.1)
    refine b284_7 ?_
    try simp only [w_Ug, reduceIte, Nat.reduceEqDiff, Int.reduceEq, eq_self, if_true]
    repeat' (first | apply And.intro | intro)
    all_goals (try first | omega | contradiction | exact Or.inl trivial | exact Or.inr trivial)
end
