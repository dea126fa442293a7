section
/-! years: the class, lots and deaths and who comes -/
variable {xs : Nat → Int32} {xl : Nat} {I J : w_I} {b : Bool} {Q : Option Value → w_I → w_I → Bool → Prop}
variable {s : Int → Int}
def py0 (a : Nat) (k : Int) : Bool := pF a k || (pK a k && !(a == 103))
def py (a : Nat) (k : Int) : Bool := py0 a k || (a == 103 && k == 3)
theorem py0_y {I I' : w_I} (h : w_fr py0 I I') : w_fr py I I' := w_frm h (fun a k e => by
  unfold py at e
  simp only [Bool.or_eq_false_iff] at e
  exact e.1)
theorem py_51 {I I' : w_I} (h : w_fr py I I') : w_fr p51 I I' := w_frm h (fun a k e => by
  simp only [p51, Bool.or_eq_false_iff] at e
  simp only [py, py0, Bool.or_eq_false_iff, e.1, e.2, Bool.false_and]
  have e2 := e.2
  simp only [pK, Bool.or_eq_false_iff, Bool.and_eq_false_iff, beq_eq_false_iff_ne, ne_eq] at e2
  refine ⟨⟨trivial, trivial⟩, ?_⟩
  simp only [Bool.and_eq_false_iff, beq_eq_false_iff_ne, ne_eq]
  omega)
theorem pF_y {I I' : w_I} (h : w_fr pF I I') : w_fr py0 I I' := w_frm h (fun a k e => by
  unfold py0 at e
  simp only [Bool.or_eq_false_iff] at e
  exact e.1)
theorem pE_y {I I' : w_I} (h : w_fr pE I I') : w_fr py0 I I' := w_frm h (fun a k e => by
  simp only [py0, pF, pK, Bool.or_eq_false_iff, Bool.and_eq_false_iff, Bool.not_eq_false', beq_eq_false_iff_ne, beq_iff_eq, ne_eq, ble_f] at e
  simp only [pE, pZ, pA, p24, p34, pV, p96, Bool.or_eq_false_iff, Bool.and_eq_false_iff, beq_eq_false_iff_ne, ne_eq]
  omega)
theorem pV_y {I I' : w_I} (h : w_fr pV I I') : w_fr py0 I I' := pE_y (p34_E (pV_34 h))
theorem pA_y {I I' : w_I} (h : w_fr pA I I') : w_fr py0 I I' := pE_y (pZ_E (pA_Z h))
theorem p24_y {I I' : w_I} (h : w_fr p24 I I') : w_fr py0 I I' := pE_y (pZ_E (p24_Z h))
theorem pW_y {I I' : w_I} (h : w_fr pW I I') : w_fr py0 I I' := w_frm h (fun a k e => by
  simp only [py0, pF, pK, Bool.or_eq_false_iff, Bool.and_eq_false_iff, Bool.not_eq_false', beq_eq_false_iff_ne, beq_iff_eq, ne_eq, ble_f] at e
  simp only [pW, pV, p96, Bool.or_eq_false_iff, Bool.and_eq_false_iff, beq_eq_false_iff_ne, ne_eq]
  omega)
theorem py0_rt {I I' : w_I} (h : w_fr py0 I I') (rt : c_rt I s) : c_rt I' s := by
  unfold c_rt
  rw [w_frA (a := 2) h (fun _ => rfl), w_frA (a := 3) h (fun _ => rfl), w_frA (a := 4) h (fun _ => rfl)]
  exact rt
theorem py0_cd {F : m_F} {I I' : w_I} (h : w_fr py0 I I') (cd : c_cd (I 5) (I 6) (I 7) F s) : c_cd (I' 5) (I' 6) (I' 7) F s := c_cd_fr cd h (fun _ => rfl) (fun _ => rfl) (fun _ => rfl)
theorem py_rt {I I' : w_I} (h : w_fr py I I') (rt : c_rt I s) : c_rt I' s := by
  unfold c_rt
  rw [w_frA (a := 2) h (fun _ => rfl), w_frA (a := 3) h (fun _ => rfl), w_frA (a := 4) h (fun _ => rfl)]
  exact rt
theorem py_cd {F : m_F} {I I' : w_I} (h : w_fr py I I') (cd : c_cd (I 5) (I 6) (I 7) F s) : c_cd (I' 5) (I' 6) (I' 7) F s := c_cd_fr cd h (fun _ => rfl) (fun _ => rfl) (fun _ => rfl)
theorem c41 {a c : Int} (k : Q (some (w_i (m_mix a c))) I J b) : w_C xs xl 41 [w_i a, w_i c] I J b Q := e41 (b41_0 k)
theorem c40 {n wh seed : Int} (h : I 103 2 = seed) (hn : 0 < n ∧ n < 1000) (k : Q (some (w_i (m_lot seed wh n))) I J b) : w_C xs xl 40 [.ref 103, w_i n, w_i wh] I J b Q := by
  refine e40 (b40_0 ?_)
  rw [h]
  refine c41 (b40_9 ?_)
  refine c41 ?_
  have ub := w_ush1_b (m_mix (m_mix seed 17) wh)
  unfold m_lot at k
  refine b40_13 ?_
  try simp only [w_Ug, reduceIte, Nat.reduceEqDiff, Int.reduceEq, eq_self, if_true]
  repeat' (first | apply And.intro | intro)
  all_goals (try first | omega | contradiction | exact Or.inl trivial | exact Or.inr trivial)
theorem c42 {F : m_F} {seed wh : Int} (rf : c_rf 20 I s) (rt : c_rt I s) (wf : m_wf s) (cd : c_cd (I 5) (I 6) (I 7) F s) (hs : I 103 2 = seed)
    (k : ∀ I', w_fr py0 I I' → c_rf 20 I' (m_dth F seed wh s (s 7).toNat) → Q none I' J b) : w_C xs xl 42 [.ref 103, w_i wh] I J b Q := by
  have w0 := wf.1.1
  refine e42 (b42_0 ?_)
  have loop : ∀ (m q : Nat) (I1 : w_I), (q : Int) + m = s 7 → w_fr py0 I I1 → c_rf 20 I1 (m_dth F seed wh s q) → w_T xs xl 42 10 [some (.ref 103), some (w_i wh), some (.ref 20), some (w_i q)] [] [] I1 J b Q := by
    intro m
    induction m with
    | zero =>
      intro q I1 a0 a1 a2
      have kd := y_K_dth (F := F) (seed := seed) (wh := wh) wf q
      have r13 : I1 20 13 = s 7 := by
        have a3' := a2
        simp only [c_rf, Nat.reduceAdd] at a3'
        rw [a3'.1, kd.2.1]
      have kk := k I1 a1 (by rw [show (s 7).toNat = q by omega]; exact a2)
      refine b42_10 ?_
      try simp only [w_Ug, reduceIte, Nat.reduceEqDiff, Int.reduceEq, eq_self, r13]
      repeat' (first | apply And.intro | intro)
      all_goals (try first | omega | contradiction | exact Or.inl trivial | exact Or.inr trivial)
    | succ m ih =>
      intro q I1 a0 a1 a2
      have kd := y_K_dth (F := F) (seed := seed) (wh := wh) wf q
      have ds := m_dth_s (F := F) (seed := seed) (wh := wh) (s := s) (p := q)
      generalize hS : m_dth F seed wh s q = S at *
      obtain ⟨⟨wS, eT, e9⟩, e7, e8⟩ := kd
      have a3' := a2
      simp only [c_rf, Nat.reduceAdd] at a3'
      obtain ⟨r13, -, -, -, rp, -⟩ := a3'
      rw [e7] at r13
      have rp := rp q (by omega) (by rw [e7]; omega)
      have wq := wS.1.2.2.1 q (by omega) (by rw [e7]; omega)
      have lb := m_lot_b (seed := seed) (wh := wh + q) (m := 100) (by omega)
      have hs1 : I1 103 2 = seed := (a1 103 2 rfl).trans hs
      have next : ∀ {I2 : w_I}, w_fr py0 I I2 → c_rf 20 I2 (m_dth F seed wh s (q + 1)) → w_T xs xl 42 10 [some (.ref 103), some (w_i wh), some (.ref 20), some (w_i (q + 1))] [] [] I2 J b Q := fun {I2} f r => by
        rw [show (q : Int) + 1 = ((q + 1 : Nat) : Int) by omega]
        exact ih (q + 1) I2 (by omega) f r
      by_cases c1 : S (100 + 6 * (q : Int)) = 1
      · have r25 : I1 25 q = S (100 + 6 * (q : Int) + 5) := by omega
        have isP : m_isP S q := ⟨by omega, by rw [e7]; omega, c1⟩
        have pb := m_pa_b wS.1 (p := q) (t := 0) (by omega)
        refine b42_10 ?_
        try simp only [w_Ug, reduceIte, Nat.reduceEqDiff, Int.reduceEq, eq_self, r13]
        repeat' (first | apply And.intro | intro)
        all_goals (try first | omega | contradiction | exact Or.inl trivial | exact Or.inr trivial)
        refine c40 hs1 (by decide) (b42_37 ?_)
        refine c11 a2 wS.1 (by omega) (by decide) ?_
        have r24 : I1 24 q = S (100 + 6 * (q : Int) + 3) := by omega
        refine b42_47 ?_
        try simp only [w_Ug, reduceIte, Nat.reduceEqDiff, Int.reduceEq, eq_self, r24]
        repeat' (first | apply And.intro | intro)
        all_goals (try first | omega | contradiction | exact Or.inl trivial | exact Or.inr trivial)
        have cdS : c_cd (I1 5) (I1 6) (I1 7) F S := c_cd_c (py0_cd a1 cd) wf.1 eT
        refine c30 cdS (by omega) (by omega) (fun I2 fr2 => ?_)
        have db := m_dieb_b (s := S) (F := F) (a := m_pa S q 0) (l := S (100 + 6 * (q : Int) + 3))
        have f2 := w_frt a1 (pV_y fr2)
        have rf2 : c_rf 20 I2 S := c_rf_fr (fun x h1 h2 => w_frA fr2 (fun k => by
          simp only [pV, p96, Bool.or_eq_false_iff, Bool.and_eq_false_iff, beq_eq_false_iff_ne, ne_eq]
          omega)) a2
        by_cases c2 : m_lot seed (wh + q) 100 < m_dieb F S (m_pa S q 0) (S (100 + 6 * (q : Int) + 3))
        · rw [if_pos ⟨isP, c2⟩] at ds
          refine b42_56 ?_
          try simp only [w_Ug, reduceIte, Nat.reduceEqDiff, Int.reduceEq, eq_self, if_true]
          repeat' (first | apply And.intro | intro)
          all_goals (try first | omega | contradiction | exact Or.inl trivial | exact Or.inr trivial)
          refine c14 rf2 wS isP (fun I3 fr3 r3 => b42_64 (next (w_frt f2 (pF_y fr3)) ?_))
          rw [ds]
          exact r3
        · rw [if_neg (fun z => c2 z.2)] at ds
          refine b42_56 ?_
          try simp only [w_Ug, reduceIte, Nat.reduceEqDiff, Int.reduceEq, eq_self, if_true]
          repeat' (first | apply And.intro | intro)
          all_goals (try first | omega | contradiction | exact Or.inl trivial | exact Or.inr trivial)
          refine next f2 ?_
          rw [ds]
          exact rf2
      · have r25 : I1 25 q = -1 := by omega
        rw [if_neg (fun z => c1 z.1.2.2)] at ds
        refine b42_10 ?_
        try simp only [w_Ug, reduceIte, Nat.reduceEqDiff, Int.reduceEq, eq_self, r13]
        repeat' (first | apply And.intro | intro)
        all_goals (try first | omega | contradiction | exact Or.inl trivial | exact Or.inr trivial)
        refine next a1 ?_
        rw [ds]
        exact a2
  exact loop (s 7).toNat 0 I (by omega) w_frr rf
theorem c43 {seed wh : Int} (rf : c_rf 20 I s) (wf : m_wf s) (hs : I 103 2 = seed)
    (k : ∀ I' s' c p, w_fr py0 I I' → y_cm s seed wh s' c p → c_rf 20 I' s' → Q (some (w_i c)) I' J b) : w_C xs xl 43 [.ref 103, w_i wh] I J b Q := by
  have w := wf.1
  have w0 := w.1
  refine e43 (b43_0 ?_)
  have no : ¬ y_in s seed wh → Q (some (w_i (-1))) I J b := fun h => k I s (-1) (-1) w_frr (Or.inr ⟨h, rfl, rfl, rfl⟩) rf
  refine c7 rf w (fun h => ?_) (fun h => ?_)
  · have kk := no (fun z => by have := z.1; omega)
    refine b43_10 ?_
    try simp only [w_Ug, reduceIte, Nat.reduceEqDiff, Int.reduceEq, eq_self, if_true]
    repeat' (first | apply And.intro | intro)
    all_goals (try first | omega | contradiction | exact Or.inl trivial | exact Or.inr trivial)
  · refine b43_10 ?_
    try simp only [w_Ug, reduceIte, Nat.reduceEqDiff, Int.reduceEq, eq_self, if_true]
    repeat' (first | apply And.intro | intro)
    all_goals (try first | omega | contradiction | exact Or.inl trivial | exact Or.inr trivial)
    refine c40 hs (by decide) ?_
    have lb := m_lot_b (seed := seed) (wh := wh + 100) (m := 100) (by omega)
    by_cases c1 : m_lot seed (wh + 100) 100 < 50
    · have yes : y_in s seed wh := ⟨⟨by omega, by omega⟩, c1⟩
      refine b43_23 ?_
      try simp only [w_Ug, reduceIte, Nat.reduceEqDiff, Int.reduceEq, eq_self, if_true]
      repeat' (first | apply And.intro | intro)
      all_goals (try first | omega | contradiction | exact Or.inl trivial | exact Or.inr trivial)
      refine c40 hs (by decide) (b43_40 ?_)
      refine c40 hs (by decide) ?_
      have lb9 := m_lot_b (seed := seed) (wh := wh + 102) (m := 9) (by omega)
      have fin : ∀ l, l = (if m_lot seed (wh + 102) 9 = 0 then 1 else 0) → w_C xs xl 12 [.ref 20, w_i (m_lot seed (wh + 101) 90), w_i (m_lot seed (wh + 101) 90), w_i l] I J b (fun v Ic Jc bc => w_T xs xl 43 71 [some (.ref 103), some (w_i wh), some (w_i (m_lot seed (wh + 101) 90)), none] [] (w_pv v []) Ic Jc bc Q) := by
        intro l hl
        refine c12 rf w (by omega) (by omega) (fun I2 fr2 r2 => ?_)
        have kk := k I2 (m_enter s (m_lot seed (wh + 101) 90) (m_lot seed (wh + 101) 90) l) (s 8) (s 7) (pF_y fr2) (Or.inl ⟨yes, by rw [hl], rfl, rfl⟩) r2
        have en := m_en_p (y := m_lot seed (wh + 101) 90) (t := m_lot seed (wh + 101) 90) (l := l) w (by omega) (by omega)
        have e7 : m_enter s (m_lot seed (wh + 101) 90) (m_lot seed (wh + 101) 90) l 7 = s 7 + 1 := by
          unfold m_enter
          rw [if_neg (by decide), if_pos rfl]
        have r2' := r2
        simp only [c_rf, Nat.reduceAdd] at r2'
        obtain ⟨-, -, -, -, rp, -⟩ := r2'
        have r25 := (rp (s 7) (by omega) (by rw [e7]; omega)).2.2.2.2.1 en.1
        rw [en.2.2.2.2.2.1] at r25
        rw [← r25] at kk
        refine b43_71 ?_
        try simp only [w_Ug, reduceIte, Nat.reduceEqDiff, Int.reduceEq, eq_self, if_true]
        repeat' (first | apply And.intro | intro)
        all_goals (try first | omega | contradiction | exact Or.inl trivial | exact Or.inr trivial)
      by_cases c2 : m_lot seed (wh + 102) 9 = 0
      · have ff := fin 1 (by rw [if_pos c2])
        refine b43_60 ?_
        try simp only [w_Ug, reduceIte, Nat.reduceEqDiff, Int.reduceEq, eq_self, if_true]
        repeat' (first | apply And.intro | intro)
        all_goals (try first | omega | contradiction | exact Or.inl trivial | exact Or.inr trivial)
      · have ff := fin 0 (by rw [if_neg c2])
        refine b43_60 ?_
        try simp only [w_Ug, reduceIte, Nat.reduceEqDiff, Int.reduceEq, eq_self, if_true]
        repeat' (first | apply And.intro | intro)
        all_goals (try first | omega | contradiction | exact Or.inl trivial | exact Or.inr trivial)
    · have kk := no (fun z => c1 z.2)
      refine b43_23 ?_
      try simp only [w_Ug, reduceIte, Nat.reduceEqDiff, Int.reduceEq, eq_self, if_true]
      repeat' (first | apply And.intro | intro)
      all_goals (try first | omega | contradiction | exact Or.inl trivial | exact Or.inr trivial)
theorem c44 {c p : Int} (rf : c_rf 20 I s) (wf : m_wf s) (hc : y_cp s c p) (hn : c ≠ -1) (k : ∀ I', w_fr pF I I' → c_rf 20 I' (m_die s p) → Q none I' J b) : w_C xs xl 44 [.ref 103, w_i c] I J b Q := by
  rcases hc with hc | ⟨h1, h2, h3, h4⟩
  · exact absurd hc.1 hn
  · obtain ⟨f1b, f1o, f1n⟩ := m_f1_is wf h1.1
    have e := h4 (m_f1 s c) ⟨f1b.1, f1b.2, f1o.1⟩ f1o.2
    have w0 := wf.1.1
    refine e44 (b44_0 ?_)
    refine c18 rf wf h1.1 ?_
    rw [e] at f1b ⊢
    have p1 := h2.1
    have p2 := h2.2.1
    refine b44_11 ?_
    try simp only [w_Ug, reduceIte, Nat.reduceEqDiff, Int.reduceEq, eq_self, if_true]
    repeat' (first | apply And.intro | intro)
    all_goals (try first | omega | contradiction | exact Or.inl trivial | exact Or.inr trivial)
    exact c14 rf wf h2 (fun I' fr r => b44_28 (k I' fr r))
theorem c45 {F : m_F} {c p : Int} (rf : c_rf 20 I s) (rt : c_rt I s) (wf : m_wf s) (cd : c_cd (I 5) (I 6) (I 7) F s) (hc : y_cp s c p) (ht : ¬ m_tt s)
    (k : ∀ I' s' mv, w_fr py I I' → y_ls F s c p s' mv → c_rf 20 I' s' → I' 103 3 = I 103 3 + mv → Q none I' J b) : w_C xs xl 45 [.ref 103, w_i c] I J b Q := by
  have w := wf.1
  have w0 := w.1
  have cb : w_in c := by
    rcases hc with x | x
    · rw [x.1]; decide
    · have := x.1.1.1; have := x.1.1.2.1; exact ⟨by omega, by omega⟩
  refine e45 (b45_0 ?_)
  refine c33 rf rt wf cd (y_cp_m hc) (fun n r hr _ hn I1 fr1 e1 e2 e3 e4 e5 => ?_) (fun n r hr h I1 fr1 => ?_)
  · have n0 := hr.1
    have rf1 := pE_rf fr1 rf
    refine b45_8 ?_
    try simp only [w_Ug, reduceIte, Nat.reduceEqDiff, Int.reduceEq, eq_self, if_true]
    repeat' (first | apply And.intro | intro)
    all_goals (try first | omega | contradiction | exact Or.inl trivial | exact Or.inr trivial)
    refine c36 (g := m_gL F s n r) rf1 wf (y_cp_m hc) hr (m_gL_up n0 hn) e1 e2 e5 (by omega) (fun I2 fr2 r2 => b45_18 ?_)
    have f2 := w_frt (pE_y fr1) (pF_y fr2)
    have x3 : I2 103 3 = I 103 3 := f2 103 3 rfl
    have x4 : I2 85 4 = m_V F s n r / 1000000 := (fr2 85 4 rfl).trans e3
    refine k _ _ _ (w_frU (py0_y f2) rfl) ⟨n, r, hr, Or.inl ⟨hn, rfl, rfl⟩⟩ (c_rf_fr (fun a h1 h2 => w_Ua (by omega)) r2) ?_
    rw [w_Ug, if_pos rfl, if_pos rfl, x3, x4]
  · have hn : s 0 < n := by
      rcases h with h | h
      · exact absurd h ht
      · exact h
    have rf1 := pE_rf fr1 rf
    by_cases c1 : c = -1
    · have kk := k I1 s 0 (py0_y (pE_y fr1)) ⟨n, r, hr, Or.inr ⟨hn, rfl, Or.inl ⟨c1, rfl⟩⟩⟩ rf1 (by rw [fr1 103 3 rfl]; omega)
      refine b45_8 ?_
      try simp only [w_Ug, reduceIte, Nat.reduceEqDiff, Int.reduceEq, eq_self, if_true]
      repeat' (first | apply And.intro | intro)
      all_goals (try first | omega | contradiction | exact Or.inl trivial | exact Or.inr trivial)
    · refine b45_8 ?_
      try simp only [w_Ug, reduceIte, Nat.reduceEqDiff, Int.reduceEq, eq_self, if_true]
      repeat' (first | apply And.intro | intro)
      all_goals (try first | omega | contradiction | exact Or.inl trivial | exact Or.inr trivial)
      refine c44 rf1 wf hc c1 (fun I2 fr2 r2 => b45_47 ?_)
      have f2 := w_frt (pE_y fr1) (pF_y fr2)
      exact k I2 _ 0 (py0_y f2) ⟨n, r, hr, Or.inr ⟨hn, rfl, Or.inr ⟨c1, rfl⟩⟩⟩ r2 (by rw [f2 103 3 rfl]; omega)
end
