section
/-! years: the reference, its ways -/
variable {xs : Nat → Int32} {xl : Nat} {I J : w_I} {b : Bool} {Q : Option Value → w_I → w_I → Bool → Prop}
variable {s : Int → Int}
theorem pS_B {I I' : w_I} (h : w_fr pS I I') : w_fr pB I I' := w_frm h (fun a k e => by
  simp only [pB, pJ, Bool.or_eq_false_iff, Bool.and_eq_false_iff, beq_eq_false_iff_ne, ne_eq, ble_f, decide_eq_false_iff_not] at e
  simp only [pS, p216, Bool.or_eq_false_iff, Bool.and_eq_false_iff, beq_eq_false_iff_ne, ne_eq]
  omega)
theorem s276 {a c : Int} (k : Q (some (w_i (m_mix a c))) I J b) : w_C xs xl 276 [w_i a, w_i c] I J b Q := e276 (b276_0 k)
theorem s277 {n wh seed : Int} (hn : 0 < n ∧ n < 1000) (k : Q (some (w_i (m_lot seed wh n))) I J b) : w_C xs xl 277 [w_i seed, w_i wh, w_i n] I J b Q := by
  refine e277 (b277_0 ?_)
  refine s276 (b277_6 ?_)
  refine s276 ?_
  have ub := w_ush1_b (m_mix (m_mix seed 17) wh)
  unfold m_lot at k
  refine b277_10 ?_
  try simp only [w_Ug, reduceIte, Nat.reduceEqDiff, Int.reduceEq, eq_self, if_true]
  repeat' (first | apply And.intro | intro)
  all_goals (try first | omega | contradiction | exact Or.inl trivial | exact Or.inr trivial)
theorem s279 {p : Int} (hs : I 110 = s) (w : m_w0 s) (hp : m_isP s p) (k : ∀ I', w_fr pS I I' → I' 110 = m_die s p → Q none I' J b) : w_C xs xl 279 [.ref 104, w_i p] I J b Q := by
  have w0 := w.1
  have p1 := hp.1
  have p2 := hp.2.1
  refine e279 ?_
  refine b279_0 ?_
  try simp only [w_Ug, reduceIte, Nat.reduceEqDiff, Int.reduceEq, eq_self, if_true]
  repeat' (first | apply And.intro | intro)
  all_goals (try first | omega | contradiction | exact Or.inl trivial | exact Or.inr trivial)
  exact s224 hs w hp (fun I' fr e => b279_9 (k I' fr e))
theorem s278 {F : m_F} {s' : Int → Int} {mv : Int} (hs : I 110 = s) (hF : m_at I F) (wf : m_wf s) (cd : m_cd F s) (ht : ¬ m_tt s) (hy : y_ls F s (-1) (-1) s' mv)
    (k : ∀ I', w_fr pB I I' → I' 110 = s' → Q (some (w_i mv)) I' J b) : w_C xs xl 278 [.ref 104] I J b Q := by
  have w := wf.1
  have w0 := w.1
  obtain ⟨n, r, hr, h⟩ := hy
  have n0 := hr.1
  refine e278 (b278_0 ?_)
  refine s245 hs hF wf cd (Or.inl rfl) hr (fun _ hn I1 fr1 e1 e2 e3 => ?_) (fun hh I1 fr1 => ?_)
  · have vb := m_V_b F (r := r) n0 hn (by omega)
    have f1 := pJ_B (pP_J fr1)
    have hs1 : I1 110 = s := (w_frA fr1 (fun _ => rfl)).trans hs
    rcases h with ⟨h1, h2, h3⟩ | ⟨h1, h2, h3⟩
    · refine b278_5 ?_
      try simp only [w_Ug, reduceIte, Nat.reduceEqDiff, Int.reduceEq, eq_self, if_true]
      repeat' (first | apply And.intro | intro)
      all_goals (try first | omega | contradiction | exact Or.inl trivial | exact Or.inr trivial)
      refine s249 (g := m_gL F s n r) hs1 e1 (by omega) (fun i x y => ⟨e2 i x y, by
        have := m_S_in (Or.inl rfl) _ (hr.2.1 i x y)
        omega⟩) e3 (fun I2 fr2 e4 => ?_)
      have kk := k I2 (w_frt f1 (p110_B fr2)) (by rw [e4, h2])
      rw [h3] at kk
      refine b278_19 ?_
      try simp only [w_Ug, reduceIte, Nat.reduceEqDiff, Int.reduceEq, eq_self, if_true]
      repeat' (first | apply And.intro | intro)
      all_goals (try first | omega | contradiction | exact Or.inl trivial | exact Or.inr trivial)
    · omega
  · have hn : s 0 < n := by
      rcases hh with x | x
      · exact absurd x ht
      · exact x
    rcases h with ⟨h1, h2, h3⟩ | ⟨h1, h2, h3⟩
    · omega
    · have hs1 : I1 110 = s := (w_frA fr1 (fun _ => rfl)).trans hs
      rcases h3 with ⟨-, h3⟩ | ⟨h3, -⟩
      · have kk := k I1 (pJ_B (pP_J fr1)) (by rw [hs1, h3])
        rw [h2] at kk
        refine b278_5 ?_
        try simp only [w_Ug, reduceIte, Nat.reduceEqDiff, Int.reduceEq, eq_self, if_true]
        repeat' (first | apply And.intro | intro)
        all_goals (try first | omega | contradiction | exact Or.inl trivial | exact Or.inr trivial)
      · exact absurd rfl h3
theorem s280 {F : m_F} {s' : Int → Int} {mv c p : Int} (hs : I 110 = s) (hF : m_at I F) (wf : m_wf s) (cd : m_cd F s) (ht : ¬ m_tt s) (hc : y_cp s c p) (hy : (c = -1 ∧ s' = s ∧ mv = 0) ∨ (c ≠ -1 ∧ y_ls F s c p s' mv))
    (k : ∀ I', w_fr pB I I' → I' 110 = s' → Q (some (w_i mv)) I' J b) : w_C xs xl 280 [.ref 104, w_i p] I J b Q := by
  have w := wf.1
  have w0 := w.1
  refine e280 ?_
  rcases hy with ⟨h1, h2, h3⟩ | ⟨h1, hy⟩
  · have ep : p = -1 := by
      rcases hc with x | x
      · exact x.2
      · have := x.1.1.1; omega
    have kk := k I w_frr (by rw [hs, h2])
    rw [h3] at kk
    subst ep
    refine b280_0 ?_
    try simp only [w_Ug, reduceIte, Nat.reduceEqDiff, Int.reduceEq, eq_self, if_true]
    repeat' (first | apply And.intro | intro)
    all_goals (try first | omega | contradiction | exact Or.inl trivial | exact Or.inr trivial)
  · have hc0 := hc
    rcases hc with x | ⟨q1, q2, q3, q4⟩
    · exact absurd x.1 h1
    · have p1 := q2.1
      have p2 := q2.2.1
      have c0 := q1.1.1
      have c1 := q1.1.2.1
      obtain ⟨n, r, hr, h⟩ := hy
      have n0 := hr.1
      have ec : I 110 (100 + 6 * p + 5) = c := by rw [hs]; exact q3
      refine b280_0 ?_
      try simp only [w_Ug, reduceIte, Nat.reduceEqDiff, Int.reduceEq, eq_self, if_true]
      repeat' (first | apply And.intro | intro)
      all_goals (try first | omega | contradiction | exact Or.inl trivial | exact Or.inr trivial)
      rw [ec]
      refine s245 hs hF wf cd (Or.inr q1) hr (fun _ hn I1 fr1 e1 e2 e3 => ?_) (fun hh I1 fr1 => ?_)
      · have vb := m_V_b F (r := r) n0 hn (by omega)
        have f1 := pJ_B (pP_J fr1)
        have hs1 : I1 110 = s := (w_frA fr1 (fun _ => rfl)).trans hs
        rcases h with ⟨h1, h2, h3⟩ | ⟨h1, h2, h3⟩
        · refine b280_24 ?_
          try simp only [w_Ug, reduceIte, Nat.reduceEqDiff, Int.reduceEq, eq_self, if_true]
          repeat' (first | apply And.intro | intro)
          all_goals (try first | omega | contradiction | exact Or.inl trivial | exact Or.inr trivial)
          refine s249 (g := m_gL F s n r) hs1 e1 (by omega) (fun i x y => ⟨e2 i x y, by
            have := m_S_in (Or.inr q1) _ (hr.2.1 i x y)
            omega⟩) e3 (fun I2 fr2 e4 => ?_)
          have kk := k I2 (w_frt f1 (p110_B fr2)) (by rw [e4, h2])
          rw [h3] at kk
          refine b280_43 ?_
          try simp only [w_Ug, reduceIte, Nat.reduceEqDiff, Int.reduceEq, eq_self, if_true]
          repeat' (first | apply And.intro | intro)
          all_goals (try first | omega | contradiction | exact Or.inl trivial | exact Or.inr trivial)
        · omega
      · have hn : s 0 < n := by
          rcases hh with x | x
          · exact absurd x ht
          · exact x
        rcases h with ⟨h1, h2, h3⟩ | ⟨h1, h2, h3⟩
        · omega
        · have hs1 : I1 110 = s := (w_frA fr1 (fun _ => rfl)).trans hs
          rcases h3 with ⟨x, -⟩ | ⟨-, h3⟩
          · omega
          · refine b280_24 ?_
            try simp only [w_Ug, reduceIte, Nat.reduceEqDiff, Int.reduceEq, eq_self, if_true]
            repeat' (first | apply And.intro | intro)
            all_goals (try first | omega | contradiction | exact Or.inl trivial | exact Or.inr trivial)
            refine s279 hs1 w q2 (fun I2 fr2 e2 => b280_37 ?_)
            have kk := k I2 (w_frt (pJ_B (pP_J fr1)) (pS_B fr2)) (by rw [e2, h3])
            rw [h2] at kk
            exact kk
set_option maxHeartbeats 2000000 in
theorem s281 {s' : Int → Int} {c p : Int} (hs : I 110 = s) (wf : m_wf s) (hc : y_cp s c p) (hy : y_nr s c p s')
    (k : ∀ I', w_fr pB I I' → I' 110 = s' → Q none I' J b) : w_C xs xl 281 [.ref 104, w_i p] I J b Q := by
  have w := wf.1
  have w0 := w.1
  refine e281 ?_
  rcases hy with ⟨h1, h2⟩ | ⟨h1, hy⟩
  · have ep : p = -1 := by
      rcases hc with x | x
      · exact x.2
      · have := x.1.1.1; omega
    have kk := k I w_frr (by rw [hs, h2])
    subst ep
    refine b281_0 ?_
    try simp only [w_Ug, reduceIte, Nat.reduceEqDiff, Int.reduceEq, eq_self, if_true]
    repeat' (first | apply And.intro | intro)
    all_goals (try first | omega | contradiction | exact Or.inl trivial | exact Or.inr trivial)
  · rcases hc with x | ⟨q1, q2, q3, q4⟩
    · exact absurd x.1 h1
    · have p1 := q2.1
      have p2 := q2.2.1
      have c0 := q1.1.1
      have c1 := q1.1.2.1
      have ec : I 110 (100 + 6 * p + 5) = c := by rw [hs]; exact q3
      have kc := m_kf_b w (st := s 1) (g := c) (by omega)
      have bl : 0 ≤ y_bl s c ∧ y_bl s c ≤ 30 := by
        have := m_sum_b (P := fun g => if m_lvg s g ∧ m_kf s (s 1) g ≤ m_kf s (s 1) c then 1 else 0) (lo := 0) (hi := 1) (s 8).toNat (fun i _ => by split <;> decide)
        unfold y_bl
        omega
      -- the houses
      have houses : ∀ (m q : Nat) (l6 : Int) (u3 u8 : Option Value) (I1 : w_I), (q : Int) + m = s 0 → w_fr pJ I I1 → w_in l6 → (0 ≤ y_nb s (y_bl s c) q → l6 = y_ab (y_nb s (y_bl s c) q - y_bl s c)) → w_T xs xl 281 88 [some (.ref 104), some (w_i p), some (w_i c), u3, some (w_i (y_bl s c)), some (w_i (y_nb s (y_bl s c) q)), some (w_i l6), some (w_i q), u8] [] [] I1 J b Q := by
        intro m
        induction m with
        | zero =>
          intro q l6 u3 u8 I1 a0 a1 a2 a3
          have hs1 := pJ_s a1 hs
          have nb := y_nb_b (s := s) (wd := y_bl s c) q
          have eq : (s 0).toNat = q := by omega
          rw [eq] at hy
          rcases hy with ⟨z1, z2⟩ | ⟨z1, z2⟩
          · refine b281_88 ?_
            try simp only [w_Ug, reduceIte, Nat.reduceEqDiff, Int.reduceEq, eq_self, hs1]
            repeat' (first | apply And.intro | intro)
            all_goals (try first | omega | contradiction | exact Or.inl trivial | exact Or.inr trivial)
            exact s279 hs1 w q2 (fun I2 fr2 e2 => b281_172 (k I2 (w_frt (pJ_B a1) (pS_B fr2)) (by rw [e2, z2])))
          · have kk := k (w_U I1 110 (460 + 3 * c + 1) (y_nb s (y_bl s c) q)) (w_frU (pJ_B a1) rfl) (by rw [w_U1, hs1, z2])
            refine b281_88 ?_
            try simp only [w_Ug, reduceIte, Nat.reduceEqDiff, Int.reduceEq, eq_self, hs1]
            repeat' (first | apply And.intro | intro)
            all_goals (try first | omega | contradiction | exact Or.inl trivial | exact Or.inr trivial)
        | succ m ih =>
          intro q l6 u3 u8 I1 a0 a1 a2 a3
          have hs1 := pJ_s a1 hs
          have nb := y_nb_b (s := s) (wd := y_bl s c) q
          have ns := y_nb_s (s := s) (wd := y_bl s c) (h := q)
          have nx := ih (q + 1)
          rw [ns, show ((q + 1 : Nat) : Int) = (q : Int) + 1 by omega] at nx
          have nx := fun l6 u3 u8 I1 => nx l6 u3 u8 I1 (by omega)
          generalize y_nb s (y_bl s c) q = B at nb nx a3 ⊢
          generalize y_bl s c = wd at bl nx a3 ⊢
          refine b281_88 ?_
          try simp only [w_Ug, reduceIte, Nat.reduceEqDiff, Int.reduceEq, eq_self, hs1]
          repeat' (first | apply And.intro | intro)
          all_goals (try first | omega | contradiction | exact Or.inl trivial | exact Or.inr trivial)
          have full : 0 ≤ m_dw s q → ∀ s0, 0 ≤ s0 → s0 < 100 → w_T xs xl 281 105 [some (.ref 104), some (w_i p), some (w_i c), u3, some (w_i wd), some (w_i B), some (w_i l6), some (w_i q), u8] [] [w_i s0] I1 J b Q := fun hd s0 x y => by
            have nx := fun u8 => nx l6 u3 u8 I1 a1 a2
            rw [if_neg (fun t => by have := t.1; omega)] at nx
            have nx := fun u8 => nx u8 a3
            refine b281_105 ?_
            try simp only [w_Ug, reduceIte, Nat.reduceEqDiff, Int.reduceEq, eq_self, if_true]
            repeat' (first | apply And.intro | intro)
            all_goals (try first | omega | contradiction | exact Or.inl trivial | exact Or.inr trivial)
            all_goals exact nx _
          have empty : m_dw s q < 0 → w_T xs xl 281 105 [some (.ref 104), some (w_i p), some (w_i c), u3, some (w_i wd), some (w_i B), some (w_i l6), some (w_i q), u8] [] [w_i (-2)] I1 J b Q := fun hd => by
            by_cases hB : B < 0
            · have nx := fun l6 u8 => nx l6 u3 u8 I1 a1
              rw [if_pos ⟨hd, Or.inl hB⟩] at nx
              have nx : ∀ l6 u8, w_in l6 → l6 = y_ab ((q : Int) - wd) → _ := fun l6 u8 x y => nx l6 u8 x (fun _ => y)
              simp only [y_ab] at nx
              by_cases z : (q : Int) ≤ wd
              · by_cases z2 : (q : Int) = wd
                · rw [if_pos (by omega)] at nx
                  refine b281_105 ?_
                  try simp only [w_Ug, reduceIte, Nat.reduceEqDiff, Int.reduceEq, eq_self, if_true]
                  repeat' (first | apply And.intro | intro)
                  all_goals (try first | omega | contradiction | exact Or.inl trivial | exact Or.inr trivial)
                  all_goals exact nx _ _ (by omega) (by omega)
                · rw [if_neg (by omega)] at nx
                  refine b281_105 ?_
                  try simp only [w_Ug, reduceIte, Nat.reduceEqDiff, Int.reduceEq, eq_self, if_true]
                  repeat' (first | apply And.intro | intro)
                  all_goals (try first | omega | contradiction | exact Or.inl trivial | exact Or.inr trivial)
                  all_goals exact nx _ _ (by omega) (by omega)
              · rw [if_pos (by omega)] at nx
                refine b281_105 ?_
                try simp only [w_Ug, reduceIte, Nat.reduceEqDiff, Int.reduceEq, eq_self, if_true]
                repeat' (first | apply And.intro | intro)
                all_goals (try first | omega | contradiction | exact Or.inl trivial | exact Or.inr trivial)
                all_goals exact nx _ _ (by omega) (by omega)
            · have a3 := a3 (by omega)
              by_cases z3 : y_ab ((q : Int) - wd) < y_ab (B - wd)
              · have nx := fun l6 u8 => nx l6 u3 u8 I1 a1
                rw [if_pos ⟨hd, Or.inr z3⟩] at nx
                have nx : ∀ l6 u8, w_in l6 → l6 = y_ab ((q : Int) - wd) → _ := fun l6 u8 x y => nx l6 u8 x (fun _ => y)
                rw [← a3] at z3
                simp only [y_ab] at nx z3
                by_cases z : 0 ≤ (q : Int) - wd
                · rw [if_pos z] at nx z3
                  refine b281_105 ?_
                  try simp only [w_Ug, reduceIte, Nat.reduceEqDiff, Int.reduceEq, eq_self, if_true]
                  repeat' (first | apply And.intro | intro)
                  all_goals (try first | omega | contradiction | exact Or.inl trivial | exact Or.inr trivial)
                  all_goals exact nx _ _ (by omega) (by omega)
                · rw [if_neg z] at nx z3
                  refine b281_105 ?_
                  try simp only [w_Ug, reduceIte, Nat.reduceEqDiff, Int.reduceEq, eq_self, if_true]
                  repeat' (first | apply And.intro | intro)
                  all_goals (try first | omega | contradiction | exact Or.inl trivial | exact Or.inr trivial)
                  all_goals exact nx _ _ (by omega) (by omega)
              · have nx := fun u8 => nx l6 u3 u8 I1 a1 a2
                rw [if_neg (fun t => by
                  rcases t.2 with t | t
                  · omega
                  · exact z3 t)] at nx
                have nx := fun u8 => nx u8 (fun _ => a3)
                rw [← a3] at z3
                simp only [y_ab] at z3
                by_cases z : 0 ≤ (q : Int) - wd
                · rw [if_pos z] at z3
                  refine b281_105 ?_
                  try simp only [w_Ug, reduceIte, Nat.reduceEqDiff, Int.reduceEq, eq_self, if_true]
                  repeat' (first | apply And.intro | intro)
                  all_goals (try first | omega | contradiction | exact Or.inl trivial | exact Or.inr trivial)
                  all_goals exact nx _
                · rw [if_neg z] at z3
                  refine b281_105 ?_
                  try simp only [w_Ug, reduceIte, Nat.reduceEqDiff, Int.reduceEq, eq_self, if_true]
                  repeat' (first | apply And.intro | intro)
                  all_goals (try first | omega | contradiction | exact Or.inl trivial | exact Or.inr trivial)
                  all_goals exact nx _
          refine s214 hs1 w (by omega) (fun f hf ef => ?_) (fun em => ?_)
          · have d := m_dw_f wf hf ef (by omega)
            have f0 := hf.1
            have f1 := hf.2.1
            exact full (by omega) f f0 (by omega)
          · have d := m_dw_e em
            exact empty (by omega)
      -- the families
      have fams : ∀ (m q : Nat) (l4 : Int) (u6 u7 u8 : Option Value) (I1 : w_I), (q : Int) + m = s 8 → w_fr pJ I I1 → l4 = m_sum (fun g => if m_lvg s g ∧ m_kf s (s 1) g ≤ m_kf s (s 1) c then 1 else 0) q → 0 ≤ l4 → l4 ≤ q → w_T xs xl 281 32 [some (.ref 104), some (w_i p), some (w_i c), some (w_i (m_kf s (s 1) c)), some (w_i l4), some (w_i q), u6, u7, u8] [] [] I1 J b Q := by
        intro m
        induction m with
        | zero =>
          intro q l4 u6 u7 u8 I1 a0 a1 a2 a3 a4
          have hs1 := pJ_s a1 hs
          have e : l4 = y_bl s c := by
            unfold y_bl
            rw [a2, show (s 8).toNat = q by omega]
          rw [e]
          refine b281_32 ?_
          try simp only [w_Ug, reduceIte, Nat.reduceEqDiff, Int.reduceEq, eq_self, hs1]
          repeat' (first | apply And.intro | intro)
          all_goals (try first | omega | contradiction | exact Or.inl trivial | exact Or.inr trivial)
          exact houses (s 0).toNat 0 0 _ _ I1 (by omega) a1 (by decide) (fun x => by
            have : y_nb s (y_bl s c) 0 = -1 := rfl
            omega)
        | succ m ih =>
          intro q l4 u6 u7 u8 I1 a0 a1 a2 a3 a4
          have hs1 := pJ_s a1 hs
          refine b281_32 ?_
          try simp only [w_Ug, reduceIte, Nat.reduceEqDiff, Int.reduceEq, eq_self, hs1]
          repeat' (first | apply And.intro | intro)
          all_goals (try first | omega | contradiction | exact Or.inl trivial | exact Or.inr trivial)
          refine s274 hs1 w (by omega) (fun hl => ?_) (fun hl => ?_)
          · refine b281_52 ?_
            try simp only [w_Ug, reduceIte, Nat.reduceEqDiff, Int.reduceEq, eq_self, if_true]
            repeat' (first | apply And.intro | intro)
            all_goals (try first | omega | contradiction | exact Or.inl trivial | exact Or.inr trivial)
            refine s218 hs1 w (by omega) (fun I2 fr2 => ?_)
            have kq := m_kf_b w (st := s 1) (g := q) (by omega)
            have a1' := w_frt a1 (p216_J fr2)
            show w_T xs xl 281 61 _ [] [w_i (m_kf s (s 1) q), w_i l4] I2 J b Q
            refine b281_61 ?_
            try simp only [w_Ug, reduceIte, Nat.reduceEqDiff, Int.reduceEq, eq_self, if_true]
            repeat' (first | apply And.intro | intro)
            all_goals (try first | omega | contradiction | exact Or.inl trivial | exact Or.inr trivial)
            · rename_i x
              rw [show (q : Int) + 1 = ((q + 1 : Nat) : Int) by omega]
              refine ih (q + 1) _ _ _ _ I2 (by omega) a1' ?_ (by omega) (by omega)
              rw [m_sum_s, ← a2, if_neg (fun z => by have := z.2; omega)]
            · rename_i x
              rw [show (q : Int) + 1 = ((q + 1 : Nat) : Int) by omega]
              refine ih (q + 1) _ _ _ _ I2 (by omega) a1' ?_ (by omega) (by omega)
              rw [m_sum_s, ← a2, if_pos ⟨hl, by omega⟩]
          · refine b281_52 ?_
            try simp only [w_Ug, reduceIte, Nat.reduceEqDiff, Int.reduceEq, eq_self, if_true]
            repeat' (first | apply And.intro | intro)
            all_goals (try first | omega | contradiction | exact Or.inl trivial | exact Or.inr trivial)
            rw [show (q : Int) + 1 = ((q + 1 : Nat) : Int) by omega]
            refine ih (q + 1) _ _ _ _ I1 (by omega) a1 ?_ (by omega) (by omega)
            rw [m_sum_s, ← a2, if_neg (fun z => hl z.1)]
      refine b281_0 ?_
      try simp only [w_Ug, reduceIte, Nat.reduceEqDiff, Int.reduceEq, eq_self, if_true]
      repeat' (first | apply And.intro | intro)
      all_goals (try first | omega | contradiction | exact Or.inl trivial | exact Or.inr trivial)
      rw [ec]
      refine s218 hs w (by omega) (fun I1 fr1 => b281_25 ?_)
      exact fams (s 8).toNat 0 0 _ _ _ I1 (by omega) (p216_J fr1) rfl (by omega) (by omega)
end
