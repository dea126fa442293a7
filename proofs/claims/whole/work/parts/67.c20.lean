section
/-! calls: least, leastAt, settle -/
variable {xs : Nat → Int32} {xl : Nat} {I J : w_I} {b : Bool} {Q : Option Value → w_I → w_I → Bool → Prop}
variable {s : Int → Int}
theorem c158 {f : Int} (rf : c_rf 20 I s) (wf : m_wf s) (hf : w_in f) (k1 : m_cm s f → Q (some (w_i 1)) I J b) (k0 : ¬ m_cm s f → Q (some (w_i 0)) I J b) : w_C xs xl 158 [.ref 0, w_i f] I J b Q := by
  have w0 := wf.1.1
  refine e158 ?_
  by_cases e : f = -1
  · have kk := k1 (Or.inl e)
    refine b158_0 ?_
    try simp only [w_Ug, reduceIte, Nat.reduceEqDiff, Int.reduceEq, eq_self, if_true]
    repeat' (first | apply And.intro | intro)
    all_goals (try first | omega | contradiction | exact Or.inl trivial | exact Or.inr trivial)
  · refine b158_0 ?_
    try simp only [w_Ug, reduceIte, Nat.reduceEqDiff, Int.reduceEq, eq_self, if_true]
    repeat' (first | apply And.intro | intro)
    all_goals (try first | omega | contradiction | exact Or.inl trivial | exact Or.inr trivial)
    refine c6 rf wf hf (fun h => ?_) (fun h => ?_)
    · have h1 := h.1
      have h2 := h.2.1
      have ch := c_home rf wf h
      refine b158_13 ?_
      try simp only [w_Ug, reduceIte, Nat.reduceEqDiff, Int.reduceEq, eq_self, if_true]
      repeat' (first | apply And.intro | intro)
      all_goals (try first | omega | contradiction | exact Or.inl trivial | exact Or.inr trivial)
      · exact k0 (fun x => by omega)
      · exact k1 (Or.inr ⟨h, by omega⟩)
    · have kk := k0 (fun x => x.elim e (fun y => h y.1))
      refine b158_13 ?_
      try simp only [w_Ug, reduceIte, Nat.reduceEqDiff, Int.reduceEq, eq_self, if_true]
      repeat' (first | apply And.intro | intro)
      all_goals (try first | omega | contradiction | exact Or.inl trivial | exact Or.inr trivial)
theorem c159 {v : Int} (rt : c_rt I s) (w : m_w0 s) (hv : 0 ≤ v ∧ v < 1000) (k : Q (some (w_i ((v + s 2 - 1) / s 2))) I J b) : w_C xs xl 159 [.ref 0, w_i v] I J b Q := by
  have w0 := w.1
  have t7 := rt.2.2.1
  refine e159 ?_
  refine b159_0 ?_
  try simp only [w_Ug, reduceIte, Nat.reduceEqDiff, Int.reduceEq, eq_self, t7]
  repeat' (first | apply And.intro | intro)
  all_goals (try first | omega | contradiction | exact Or.inl trivial | exact Or.inr trivial)
theorem m_V_d (F : m_F) {n : Int} {r : Int → Int} (h0 : 0 ≤ n) (hn : n ≤ 24) : 0 ≤ m_V F s n r / 1000000 ∧ m_V F s n r / 1000000 ≤ 24 ∧ 0 ≤ m_V F s n r % 1000000 ∧ m_V F s n r % 1000000 < 1000000 := by
  obtain ⟨M, C, m1, m2, m3, m4, m5⟩ := l_v_m (H := s 0) (m_pf_ps (s := s) (F := F) (cs := 1) (r := r) (lo := 0) (hi := n)) n.toNat 0 (s 0 - n).toNat (by omega) (by omega)
  have m1 : m_V F s n r = M * 1000000 + C := m1
  rw [m1]
  omega
theorem c135 {F : m_F} {c a : Int} (rf : c_rf 20 I s) (rt : c_rt I s) (wf : m_wf s) (cd : c_cd (I 5) (I 6) (I 7) F s) (hc : w_in c) (ha : w_in a)
    (kN : ¬ (m_cm s c ∧ 0 ≤ a ∧ a ≤ 2) → Q (some (w_i (-1))) I J b) (k1 : m_cm s c → 0 ≤ a ∧ a ≤ 2 → ∀ n r, r_ok n r (m_S s c) (m_rk s (m_kf s (s 1))) → ¬ m_tt s → n ≤ s 0 → ∀ I', w_fr pE I I' → Q (some (w_i (m_lsv s (m_V F s n r) a))) I' J b)
    (k0 : m_cm s c → 0 ≤ a ∧ a ≤ 2 → ∀ n r, r_ok n r (m_S s c) (m_rk s (m_kf s (s 1))) → m_tt s ∨ s 0 < n → ∀ I', w_fr pE I I' → Q (some (w_i (-2))) I' J b) : w_C xs xl 135 [.ref 0, w_i c, w_i a] I J b Q := by
  have w := wf.1
  have w0 := w.1
  refine e135 (b135_0 ?_)
  refine c158 rf wf hc (fun h1 => ?_) (fun h1 => ?_)
  · by_cases h2 : 0 ≤ a ∧ a ≤ 2
    · refine b135_5 ?_
      try simp only [w_Ug, reduceIte, Nat.reduceEqDiff, Int.reduceEq, eq_self, if_true]
      repeat' (first | apply And.intro | intro)
      all_goals (try first | omega | contradiction | exact Or.inl trivial | exact Or.inr trivial)
      refine c33 rf rt wf cd h1 (fun n r hr ht hn I1 fr1 e1 e2 e3 e4 e5 => ?_) (fun n r hr h I1 fr1 => ?_)
      · have vd := m_V_d (s := s) F (r := r) hr.1 (by omega)
        have k := k1 h1 h2 n r hr ht hn I1 fr1
        have rt1 := pE_rt fr1 rt
        unfold m_lsv at k
        refine b135_27 ?_
        try simp only [w_Ug, reduceIte, Nat.reduceEqDiff, Int.reduceEq, eq_self, e3, e4]
        repeat' (first | apply And.intro | intro)
        all_goals (try first | omega | contradiction | exact Or.inl trivial | exact Or.inr trivial)
        · rename_i x1
          rw [if_pos x1] at k; exact k
        · rename_i x1 x2
          rw [if_neg x1, if_pos x2] at k; exact k
        · rename_i x1 x2
          rw [if_neg x1, if_neg x2] at k
          exact c159 rt1 w (by omega) (b135_87 k)
      · have k := k0 h1 h2 n r hr h I1 fr1
        refine b135_27 ?_
        try simp only [w_Ug, reduceIte, Nat.reduceEqDiff, Int.reduceEq, eq_self, if_true]
        repeat' (first | apply And.intro | intro)
        all_goals (try first | omega | contradiction | exact Or.inl trivial | exact Or.inr trivial)
    · have kk := kN (fun x => h2 x.2)
      refine b135_5 ?_
      try simp only [w_Ug, reduceIte, Nat.reduceEqDiff, Int.reduceEq, eq_self, if_true]
      repeat' (first | apply And.intro | intro)
      all_goals (try first | omega | contradiction | exact Or.inl trivial | exact Or.inr trivial)
  · have kk := kN (fun x => h1 x.1)
    refine b135_5 ?_
    try simp only [w_Ug, reduceIte, Nat.reduceEqDiff, Int.reduceEq, eq_self, if_true]
    repeat' (first | apply And.intro | intro)
    all_goals (try first | omega | contradiction | exact Or.inl trivial | exact Or.inr trivial)
theorem c136 {F : m_F} {c f : Int} (rf : c_rf 20 I s) (rt : c_rt I s) (wf : m_wf s) (cd : c_cd (I 5) (I 6) (I 7) F s) (hc : w_in c) (hf : w_in f)
    (kN : ¬ m_lac s c f → Q (some (w_i (-1))) I J b) (k1 : m_lac s c f → ∀ n r, r_ok n r (m_S s c) (m_rk s (m_kf s (s 1))) → ¬ m_tt s → n ≤ s 0 → ∀ I', w_fr pE I I' → Q (some (w_i (m_ato F s n r f n.toNat))) I' J b)
    (k0 : m_lac s c f → ∀ n r, r_ok n r (m_S s c) (m_rk s (m_kf s (s 1))) → m_tt s ∨ s 0 < n → ∀ I', w_fr pE I I' → Q (some (w_i (-2))) I' J b) : w_C xs xl 136 [.ref 0, w_i c, w_i f] I J b Q := by
  have w := wf.1
  have w0 := w.1
  refine e136 (b136_0 ?_)
  refine c158 rf wf hc (fun h1 => ?_) (fun h1 => ?_)
  · refine b136_5 ?_
    try simp only [w_Ug, reduceIte, Nat.reduceEqDiff, Int.reduceEq, eq_self, if_true]
    repeat' (first | apply And.intro | intro)
    all_goals (try first | omega | contradiction | exact Or.inl trivial | exact Or.inr trivial)
    refine c6 rf wf hf (fun h2 => ?_) (fun h2 => ?_)
    · have hf1 := h2.1
      have hf2 := h2.2.1
      have ch := c_home rf wf h2
      have go : m_lac s c f → w_C xs xl 33 [.ref 85, w_i c] I J b (fun v Ic Jc bc => w_T xs xl 136 49 [some (.ref 0), some (w_i c), some (w_i f)] [] (w_pv v []) Ic Jc bc Q) := by
        intro hl
        refine c33 rf rt wf cd h1 (fun n r hr ht hn I1 fr1 e1 e2 e3 e4 e5 => ?_) (fun n r hr h I1 fr1 => ?_)
        · have n0 := hr.1
          have k := k1 hl n r hr ht hn I1 fr1
          refine b136_49 ?_
          try simp only [w_Ug, reduceIte, Nat.reduceEqDiff, Int.reduceEq, eq_self, if_true]
          repeat' (first | apply And.intro | intro)
          all_goals (try first | omega | contradiction | exact Or.inl trivial | exact Or.inr trivial)
          refine c35 (F := F) (s := s) (n := n) (r := r) e1 (by omega) hf (fun i x y => ⟨e2 i x y, by
            have := m_S_in h1 _ (hr.2.1 i x y)
            omega⟩) e5 (hr.2.2.1 f (m_lac_S hl)) (fun i j x y z => r_ok_ne hr x y z) (b136_60 k)
        · have k := k0 hl n r hr h I1 fr1
          refine b136_49 ?_
          try simp only [w_Ug, reduceIte, Nat.reduceEqDiff, Int.reduceEq, eq_self, if_true]
          repeat' (first | apply And.intro | intro)
          all_goals (try first | omega | contradiction | exact Or.inl trivial | exact Or.inr trivial)
      by_cases x : 0 ≤ s (460 + 3 * f + 1)
      · have go := go ⟨h1, h2, Or.inl x⟩
        refine b136_16 ?_
        try simp only [w_Ug, reduceIte, Nat.reduceEqDiff, Int.reduceEq, eq_self, if_true]
        repeat' (first | apply And.intro | intro)
        all_goals (try first | omega | contradiction | exact Or.inl trivial | exact Or.inr trivial)
        all_goals exact go
      · by_cases y : f = c
        · have go := go ⟨h1, h2, Or.inr y⟩
          refine b136_16 ?_
          try simp only [w_Ug, reduceIte, Nat.reduceEqDiff, Int.reduceEq, eq_self, if_true]
          repeat' (first | apply And.intro | intro)
          all_goals (try first | omega | contradiction | exact Or.inl trivial | exact Or.inr trivial)
          all_goals exact go
        · have kk := kN (fun z => z.2.2.elim x y)
          refine b136_16 ?_
          try simp only [w_Ug, reduceIte, Nat.reduceEqDiff, Int.reduceEq, eq_self, if_true]
          repeat' (first | apply And.intro | intro)
          all_goals (try first | omega | contradiction | exact Or.inl trivial | exact Or.inr trivial)
    · have kk := kN (fun x => h2 x.2.1)
      refine b136_16 ?_
      try simp only [w_Ug, reduceIte, Nat.reduceEqDiff, Int.reduceEq, eq_self, if_true]
      repeat' (first | apply And.intro | intro)
      all_goals (try first | omega | contradiction | exact Or.inl trivial | exact Or.inr trivial)
  · have kk := kN (fun x => h1 x.1)
    refine b136_5 ?_
    try simp only [w_Ug, reduceIte, Nat.reduceEqDiff, Int.reduceEq, eq_self, if_true]
    repeat' (first | apply And.intro | intro)
    all_goals (try first | omega | contradiction | exact Or.inl trivial | exact Or.inr trivial)
def pG (a : Nat) (k : Int) : Bool := pF a k || pE a k
theorem pF_G {I I' : w_I} (h : w_fr pF I I') : w_fr pG I I' := w_frm h (fun a k e => by
  unfold pG at e
  cases h : pF a k
  · rfl
  · rw [h, Bool.true_or] at e; cases e)
theorem pE_G {I I' : w_I} (h : w_fr pE I I') : w_fr pG I I' := w_frm h (fun a k e => by
  unfold pG at e
  cases h : pE a k
  · rfl
  · rw [h, Bool.or_true] at e; cases e)
theorem c137 {F : m_F} {c : Int} (rf : c_rf 20 I s) (rt : c_rt I s) (wf : m_wf s) (cd : c_cd (I 5) (I 6) (I 7) F s) (hc : w_in c)
    (kN : ¬ m_cm s c → Q (some (w_i (-1))) I J b) (k1 : m_cm s c → ∀ n r, r_ok n r (m_S s c) (m_rk s (m_kf s (s 1))) → ¬ m_tt s → n ≤ s 0 → ∀ I', w_fr pG I I' → c_rf 20 I' (m_setN s r (m_gL F s n r) n.toNat) → Q (some (w_i (m_V F s n r / 1000000))) I' J b)
    (k0 : m_cm s c → ∀ n r, r_ok n r (m_S s c) (m_rk s (m_kf s (s 1))) → m_tt s ∨ s 0 < n → ∀ I', w_fr pE I I' → Q (some (w_i (-2))) I' J b) : w_C xs xl 137 [.ref 0, w_i c] I J b Q := by
  have w := wf.1
  have w0 := w.1
  refine e137 (b137_0 ?_)
  refine c158 rf wf hc (fun h1 => ?_) (fun h1 => ?_)
  · refine b137_5 ?_
    try simp only [w_Ug, reduceIte, Nat.reduceEqDiff, Int.reduceEq, eq_self, if_true]
    repeat' (first | apply And.intro | intro)
    all_goals (try first | omega | contradiction | exact Or.inl trivial | exact Or.inr trivial)
    refine c33 rf rt wf cd h1 (fun n r hr ht hn I1 fr1 e1 e2 e3 e4 e5 => ?_) (fun n r hr h I1 fr1 => ?_)
    · have n0 := hr.1
      have rf1 := pE_rf fr1 rf
      refine b137_18 ?_
      try simp only [w_Ug, reduceIte, Nat.reduceEqDiff, Int.reduceEq, eq_self, if_true]
      repeat' (first | apply And.intro | intro)
      all_goals (try first | omega | contradiction | exact Or.inl trivial | exact Or.inr trivial)
      refine c36 (g := m_gL F s n r) rf1 wf h1 hr (m_gL_up n0 hn) e1 e2 e5 (by omega) (fun I2 fr2 r2 => ?_)
      have k := k1 h1 n r hr ht hn I2 (w_frt (pE_G fr1) (pF_G fr2)) r2
      rw [← e3, ← fr2 85 4 rfl] at k
      exact b137_31 k
    · have k := k0 h1 n r hr h I1 fr1
      refine b137_18 ?_
      try simp only [w_Ug, reduceIte, Nat.reduceEqDiff, Int.reduceEq, eq_self, if_true]
      repeat' (first | apply And.intro | intro)
      all_goals (try first | omega | contradiction | exact Or.inl trivial | exact Or.inr trivial)
  · have kk := kN h1
    refine b137_5 ?_
    try simp only [w_Ug, reduceIte, Nat.reduceEqDiff, Int.reduceEq, eq_self, if_true]
    repeat' (first | apply And.intro | intro)
    all_goals (try first | omega | contradiction | exact Or.inl trivial | exact Or.inr trivial)
end
