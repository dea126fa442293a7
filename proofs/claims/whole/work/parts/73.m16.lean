section
/-! calls of the reference: mean, where, gap -/
variable {xs : Nat → Int32} {xl : Nat} {I J : w_I} {b : Bool} {Q : Option Value → w_I → w_I → Bool → Prop}
variable {s : Int → Int}
theorem m_mean_0 {F : m_F} {n H : Int} {r : Int → Int} : m_mean F s n r H 24 0 = m_mean F s n r H (-1) 0 := by
  have e : ∀ h, l_sp 24 0 h = l_sp (-1) 0 h := fun h => by
    unfold l_sp
    repeat' split
    all_goals omega
  unfold m_mean m_mg
  simp only [e]
theorem s253 {F : m_F} {n : Int} {r : Int → Int} (hs : I 110 = s) (hF : m_at I F) (wf : m_wf s) (cd : m_cd F s) (hr : ¬ m_tt s → r_ok n r (m_S s (-1)) (m_rk s (m_kf s (s 1))))
    (k0 : m_tt s → Q (some (w_i (-2))) I J b) (k : ¬ m_tt s → ∀ I', w_fr pJ I I' → Q (some (w_i (m_mean F s n r (s 0) (-1) 0))) I' J b) : w_C xs xl 253 [.ref 104] I J b Q := by
  have w0 := wf.1.1
  refine e253 (b253_0 ?_)
  refine s236 hs wf.1 (fun ht => ?_) (fun ht => ?_)
  · have kk := k0 ht
    refine b253_4 ?_
    try simp only [w_Ug, reduceIte, Nat.reduceEqDiff, Int.reduceEq, eq_self, if_true]
    repeat' (first | apply And.intro | intro)
    all_goals (try first | omega | contradiction | exact Or.inl trivial | exact Or.inr trivial)
  · have hr := hr ht
    have nb := m_row_b wf hr
    refine b253_4 ?_
    try simp only [w_Ug, reduceIte, Nat.reduceEqDiff, Int.reduceEq, eq_self, if_true]
    repeat' (first | apply And.intro | intro)
    all_goals (try first | omega | contradiction | exact Or.inl trivial | exact Or.inr trivial)
    rw [hs]
    refine s252 hs hF wf cd (by omega) (by decide) (by decide) (fun h => by omega) (by omega) hr (fun I1 fr1 => b253_25 ?_)
    rw [m_mean_0]
    exact k ht I1 fr1
theorem s254 {F : m_F} {l n : Int} {r : Int → Int} (hs : I 110 = s) (hF : m_at I F) (wf : m_wf s) (cd : m_cd F s) (hl : w_in l) (hr : ¬ (m_tt s ∨ s 0 = 24) → r_ok n r (m_S s (-1)) (m_rk s (m_kf s (s 1))))
    (k0 : m_tt s ∨ s 0 = 24 → Q (some (w_i (-2))) I J b)
    (k : ¬ (m_tt s ∨ s 0 = 24) → ∀ I', w_fr pJ I I' → Q (some (w_i (if l = 0 then (m_wh (fun p => m_mean F s n r (s 0 + 1) p 1) (s 0 + 1).toNat).2 else (m_wh (fun p => m_mean F s n r (s 0 + 1) p 1) (s 0 + 1).toNat).1))) I' J b) : w_C xs xl 254 [.ref 104, w_i l] I J b Q := by
  have w0 := wf.1.1
  refine e254 (b254_0 ?_)
  refine s236 hs wf.1 (fun ht => ?_) (fun ht => ?_)
  · have kk := k0 (Or.inl ht)
    refine b254_4 ?_
    try simp only [w_Ug, reduceIte, Nat.reduceEqDiff, Int.reduceEq, eq_self, hs]
    repeat' (first | apply And.intro | intro)
    all_goals (try first | omega | contradiction | exact Or.inl trivial | exact Or.inr trivial)
  · by_cases h24 : s 0 = 24
    · have kk := k0 (Or.inr h24)
      refine b254_4 ?_
      try simp only [w_Ug, reduceIte, Nat.reduceEqDiff, Int.reduceEq, eq_self, hs]
      repeat' (first | apply And.intro | intro)
      all_goals (try first | omega | contradiction | exact Or.inl trivial | exact Or.inr trivial)
    · have hn : ¬ (m_tt s ∨ s 0 = 24) := fun x => x.elim ht h24
      have hr := hr hn
      have k := k hn
      have nb := m_row_b wf hr
      have n0 := hr.1
      have vb := fun p => m_mean_b (s := s) (F := F) (n := n) (H := s 0 + 1) (fr := p) (by' := 1) (r := r) (by omega)
      generalize hv : (fun p => m_mean F s n r (s 0 + 1) p 1) = v at k
      have vb : ∀ p, 0 ≤ v p ∧ v p ≤ 21600 := fun p => by rw [← hv]; exact vb p
      have ve : ∀ p, m_mean F s n r (s 0 + 1) p 1 = v p := fun p => by rw [← hv]
      have wb := m_wh_b vb
      refine b254_4 ?_
      try simp only [w_Ug, reduceIte, Nat.reduceEqDiff, Int.reduceEq, eq_self, hs]
      repeat' (first | apply And.intro | intro)
      all_goals (try first | omega | contradiction | exact Or.inl trivial | exact Or.inr trivial)
      have loop : ∀ (m p : Nat) (l2 l3 l4 : Int) (u5 : Option Value) (I1 : w_I), (p : Int) + m = s 0 + 1 → l4 = p → w_fr pJ I I1 → l2 = (m_wh v p).1 → l3 = (m_wh v p).2 → w_T xs xl 254 28 [some (.ref 104), some (w_i l), some (w_i l2), some (w_i l3), some (w_i l4), u5] [] [] I1 J b Q := by
        intro m
        induction m with
        | zero =>
          intro p l2 l3 l4 u5 I1 a0 a1 a2 a3 a4
          have hs1 := pJ_s a2 hs
          have kk := k I1 a2
          rw [show (s 0 + 1).toNat = p by omega, ← a3, ← a4] at kk
          refine b254_28 ?_
          try simp only [w_Ug, reduceIte, Nat.reduceEqDiff, Int.reduceEq, eq_self, hs1]
          repeat' (first | apply And.intro | intro)
          all_goals (try first | omega | contradiction | exact Or.inl trivial | exact Or.inr trivial)
          · rename_i c
            rw [if_pos c] at kk; exact kk
          · rename_i c
            rw [if_neg c] at kk; exact kk
        | succ m ih =>
          intro p l2 l3 l4 u5 I1 a0 a1 a2 a3 a4
          have hs1 := pJ_s a2 hs
          have hF1 := pJ_F a2 hF
          have wbp := wb p
          have vbp := vb l4
          have ws := m_wh_s (v := v) (p := p)
          rw [← a1] at ws
          refine b254_28 ?_
          try simp only [w_Ug, reduceIte, Nat.reduceEqDiff, Int.reduceEq, eq_self, hs1]
          repeat' (first | apply And.intro | intro)
          all_goals (try first | omega | contradiction | exact Or.inl trivial | exact Or.inr trivial)
          refine s252 hs1 hF1 wf cd (by omega) (by omega) (by decide) (fun h => by omega) (by omega) hr (fun I2 fr2 => ?_)
          rw [ve]
          have fr := w_frt a2 fr2
          by_cases c1 : (m_wh v p).1 < 0
          · rw [if_pos (Or.inl c1)] at ws
            refine b254_54 ?_
            try simp only [w_Ug, reduceIte, Nat.reduceEqDiff, Int.reduceEq, eq_self, if_true]
            repeat' (first | apply And.intro | intro)
            all_goals (try first | omega | contradiction | exact Or.inl trivial | exact Or.inr trivial)
            exact ih (p + 1) _ _ _ _ I2 (by omega) (by omega) fr (by rw [ws]) (by rw [ws])
          · by_cases c2 : v l4 < (m_wh v p).2
            · rw [if_pos (Or.inr c2)] at ws
              refine b254_54 ?_
              try simp only [w_Ug, reduceIte, Nat.reduceEqDiff, Int.reduceEq, eq_self, if_true]
              repeat' (first | apply And.intro | intro)
              all_goals (try first | omega | contradiction | exact Or.inl trivial | exact Or.inr trivial)
              exact ih (p + 1) _ _ _ _ I2 (by omega) (by omega) fr (by rw [ws]) (by rw [ws])
            · rw [if_neg (fun h => h.elim c1 c2)] at ws
              refine b254_54 ?_
              try simp only [w_Ug, reduceIte, Nat.reduceEqDiff, Int.reduceEq, eq_self, if_true]
              repeat' (first | apply And.intro | intro)
              all_goals (try first | omega | contradiction | exact Or.inl trivial | exact Or.inr trivial)
              exact ih (p + 1) _ _ _ _ I2 (by omega) (by omega) fr (by rw [ws]; exact a3) (by rw [ws]; exact a4)
      exact loop (s 0 + 1).toNat 0 (-1) 0 0 _ I (by omega) rfl w_frr rfl rfl
theorem s255 {F : m_F} {n : Int} {r : Int → Int} (hs : I 110 = s) (hF : m_at I F) (wf : m_wf s) (cd : m_cd F s) (hr : ¬ m_tt s → r_ok n r (m_S s (-1)) (m_rk s (m_kf s (s 1))))
    (k0 : m_tt s → Q (some (w_i (-2))) I J b)
    (k : ¬ m_tt s → ∀ I', w_fr pJ I I' → Q (some (w_i (if (m_gp s (fun p => m_mean F s n r (s 0 - 1) p (-1)) (s 0).toNat).1 < 0 then -2 else (m_gp s (fun p => m_mean F s n r (s 0 - 1) p (-1)) (s 0).toNat).1))) I' J b) : w_C xs xl 255 [.ref 104] I J b Q := by
  have w0 := wf.1.1
  refine e255 (b255_0 ?_)
  refine s236 hs wf.1 (fun ht => ?_) (fun ht => ?_)
  · have kk := k0 ht
    refine b255_4 ?_
    try simp only [w_Ug, reduceIte, Nat.reduceEqDiff, Int.reduceEq, eq_self, if_true]
    repeat' (first | apply And.intro | intro)
    all_goals (try first | omega | contradiction | exact Or.inl trivial | exact Or.inr trivial)
  · have hr := hr ht
    have k := k ht
    have nb := m_row_b wf hr
    have n0 := hr.1
    have vb := fun p => m_mean_b (s := s) (F := F) (n := n) (H := s 0 - 1) (fr := p) (by' := -1) (r := r) (by omega)
    generalize hv : (fun p => m_mean F s n r (s 0 - 1) p (-1)) = v at k
    have vb : ∀ p, 0 ≤ v p ∧ v p ≤ 21600 := fun p => by rw [← hv]; exact vb p
    have ve : ∀ p, m_mean F s n r (s 0 - 1) p (-1) = v p := fun p => by rw [← hv]
    have wb := m_gp_b (s := s) vb
    refine b255_4 ?_
    try simp only [w_Ug, reduceIte, Nat.reduceEqDiff, Int.reduceEq, eq_self, if_true]
    repeat' (first | apply And.intro | intro)
    all_goals (try first | omega | contradiction | exact Or.inl trivial | exact Or.inr trivial)
    have loop : ∀ (m p : Nat) (l1 l2 l3 : Int) (u4 : Option Value) (I1 : w_I), (p : Int) + m = s 0 → l3 = p → w_fr pJ I I1 → l1 = (if (m_gp s v p).1 < 0 then -2 else (m_gp s v p).1) → (0 ≤ (m_gp s v p).1 → l2 = (m_gp s v p).2) → w_T xs xl 255 17 [some (.ref 104), some (w_i l1), some (w_i l2), some (w_i l3), u4] [] [] I1 J b Q := by
      intro m
      induction m with
      | zero =>
        intro p l1 l2 l3 u4 I1 a0 a1 a2 a3 a4
        have hs1 := pJ_s a2 hs
        have kk := k I1 a2
        rw [show (s 0).toNat = p by omega, ← a3] at kk
        refine b255_17 ?_
        try simp only [w_Ug, reduceIte, Nat.reduceEqDiff, Int.reduceEq, eq_self, hs1]
        repeat' (first | apply And.intro | intro)
        all_goals (try first | omega | contradiction | exact Or.inl trivial | exact Or.inr trivial)
      | succ m ih =>
        intro p l1 l2 l3 u4 I1 a0 a1 a2 a3 a4
        have hs1 := pJ_s a2 hs
        have hF1 := pJ_F a2 hF
        have wbp := wb p
        have vbp := vb l3
        have ws := m_gp_s (s := s) (v := v) (p := p)
        rw [← a1] at ws
        have l1b : ((m_gp s v p).1 < 0 → l1 = -2) ∧ (0 ≤ (m_gp s v p).1 → l1 = (m_gp s v p).1) := by
          rw [a3]
          exact ⟨fun h => if_pos h, fun h => if_neg (by omega)⟩
        refine b255_17 ?_
        try simp only [w_Ug, reduceIte, Nat.reduceEqDiff, Int.reduceEq, eq_self, hs1]
        repeat' (first | apply And.intro | intro)
        all_goals (try first | omega | contradiction | exact Or.inl trivial | exact Or.inr trivial)
        refine s214 hs1 wf.1 (by omega) (fun f hf ef => ?_) (fun em => ?_)
        · have dw := m_dw_f wf hf ef (by omega)
          have q11 := hf.1
          have q12 := hf.2.1
          rw [if_neg (fun h => by have := h.1; omega)] at ws
          refine b255_32 ?_
          try simp only [w_Ug, reduceIte, Nat.reduceEqDiff, Int.reduceEq, eq_self, if_true]
          repeat' (first | apply And.intro | intro)
          all_goals (try first | omega | contradiction | exact Or.inl trivial | exact Or.inr trivial)
          exact ih (p + 1) _ _ _ _ I1 (by omega) (by omega) a2 (by rw [ws]; exact a3) (by rw [ws]; exact a4)
        · have dw := m_dw_e em
          refine b255_32 ?_
          try simp only [w_Ug, reduceIte, Nat.reduceEqDiff, Int.reduceEq, eq_self, hs1]
          repeat' (first | apply And.intro | intro)
          all_goals (try first | omega | contradiction | exact Or.inl trivial | exact Or.inr trivial)
          have n1 : n ≤ s 0 - 1 + 1 := by omega
          refine s252 hs1 hF1 wf cd (by omega) (by omega) (by decide) (fun _ => em) n1 hr (fun I2 fr2 => ?_)
          rw [ve]
          have fr := w_frt a2 fr2
          by_cases c1 : (m_gp s v p).1 < 0
          · rw [if_pos ⟨by omega, Or.inl c1⟩] at ws
            refine b255_52 ?_
            try simp only [w_Ug, reduceIte, Nat.reduceEqDiff, Int.reduceEq, eq_self, if_true]
            repeat' (first | apply And.intro | intro)
            all_goals (try first | omega | contradiction | exact Or.inl trivial | exact Or.inr trivial)
            exact ih (p + 1) _ _ _ _ I2 (by omega) (by omega) fr (by rw [ws]; rw [if_neg (by omega)]) (fun _ => by rw [ws])
          · have a4 := a4 (by omega)
            by_cases c2 : (m_gp s v p).2 < v l3
            · rw [if_pos ⟨by omega, Or.inr c2⟩] at ws
              refine b255_52 ?_
              try simp only [w_Ug, reduceIte, Nat.reduceEqDiff, Int.reduceEq, eq_self, if_true]
              repeat' (first | apply And.intro | intro)
              all_goals (try first | omega | contradiction | exact Or.inl trivial | exact Or.inr trivial)
              exact ih (p + 1) _ _ _ _ I2 (by omega) (by omega) fr (by rw [ws]; rw [if_neg (by omega)]) (fun _ => by rw [ws])
            · rw [if_neg (fun h => h.2.elim c1 c2)] at ws
              refine b255_52 ?_
              try simp only [w_Ug, reduceIte, Nat.reduceEqDiff, Int.reduceEq, eq_self, if_true]
              repeat' (first | apply And.intro | intro)
              all_goals (try first | omega | contradiction | exact Or.inl trivial | exact Or.inr trivial)
              exact ih (p + 1) _ _ _ _ I2 (by omega) (by omega) fr (by rw [ws]; exact a3) (fun _ => by rw [ws]; exact a4)
    exact loop (s 0).toNat 0 (-2) 0 0 _ I (by omega) rfl w_frr rfl (fun h => absurd h (by show ¬ 0 ≤ (-1 : Int); omega))
end
