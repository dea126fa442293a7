section
/-! the tape; calls: feed, back, move, forget -/
variable {xs : Nat → Int32} {xl : Nat} {I J : w_I} {b : Bool} {Q : Option Value → w_I → w_I → Bool → Prop}
variable {s : Int → Int}
/-- a byte of four -/
def m_b4 (v j : Int) : Int := w_shr v (24 - 8 * j) % 256
def m_tp (T : Int → Int) (t v : Int) : Int → Int := fun k => if k < t then T k else m_b4 v (k - t)
def c_tp (I : w_I) (T : Int → Int) (t : Int) : Prop := I 0 1 = t ∧ (0 ≤ t ∧ t ≤ 2000) ∧ ∀ k, 0 ≤ k → k < t → I 1 k % 256 = T k
def s_tp (I : w_I) (T : Int → Int) (t : Int) : Prop := I 104 0 = t ∧ (0 ≤ t ∧ t ≤ 2000) ∧ ∀ k, 0 ≤ k → k < t → I 105 k = T k
def p155 (a : Nat) (k : Int) : Bool := a == 1 || (a == 0 && k == 1)
def p165 (a : Nat) (k : Int) : Bool := a == 105 || (a == 104 && k == 0)
theorem c155 {T : Int → Int} {t v : Int} (h : c_tp I T t) (ht : t + 4 ≤ 2000) (k : ∀ I', w_fr p155 I I' → c_tp I' (m_tp T t v) (t + 4) → Q none I' J b) : w_C xs xl 155 [.ref 0, w_i v] I J b Q := by
  obtain ⟨h1, h2, h3⟩ := h
  refine e155 (b155_0 ?_)
  have loop : ∀ (m : Nat) (j : Int) (I1 : w_I), j + m = 4 → 0 ≤ j → w_fr p155 I I1 → I1 0 1 = t + j → (∀ k, 0 ≤ k → k < t + j → I1 1 k % 256 = m_tp T t v k) → w_T xs xl 155 3 [some (.ref 0), some (w_i v), some (w_i (24 - 8 * j))] [] [] I1 J b Q := by
    intro m
    induction m with
    | zero =>
      intro j I1 a0 a1 a2 a3 a4
      have e : j = 4 := by omega
      subst e
      have kk := k I1 a2 ⟨a3, by omega, a4⟩
      refine b155_3 ?_
      try simp only [w_Ug, reduceIte, Nat.reduceEqDiff, Int.reduceEq, eq_self, if_true]
      repeat' (first | apply And.intro | intro)
      all_goals (try first | omega | contradiction | exact Or.inl trivial | exact Or.inr trivial)
    | succ m ih =>
      intro j I1 a0 a1 a2 a3 a4
      refine b155_3 ?_
      try simp only [w_Ug, reduceIte, Nat.reduceEqDiff, Int.reduceEq, eq_self, a3]
      repeat' (first | apply And.intro | intro)
      all_goals (try first | omega | contradiction | exact Or.inl trivial | exact Or.inr trivial)
      rw [show 24 - 8 * j + -8 = 24 - 8 * (j + 1) by omega]
      refine ih (j + 1) _ (by omega) (by omega) (w_frU (w_frU a2 rfl) rfl) ?_ (fun k x y => ?_)
      · simp only [w_Ug, reduceIte]
        omega
      · simp only [w_Ug, reduceIte, Nat.reduceEqDiff]
        by_cases e : k = t + j
        · rw [if_pos e, w_by256, w_by256]
          unfold m_tp m_b4
          rw [if_neg (by omega), show k - t = j by omega]
        · rw [if_neg e]
          exact a4 k x (by omega)
  refine loop 4 0 I (by omega) (by omega) w_frr (by omega) (fun k x y => ?_)
  rw [h3 k x (by omega)]
  unfold m_tp
  rw [if_pos (by omega)]
theorem s165 {T : Int → Int} {t v : Int} (h : s_tp I T t) (ht : t + 4 ≤ 2000) (k : ∀ I', w_fr p165 I I' → s_tp I' (m_tp T t v) (t + 4) → Q none I' J b) : w_C xs xl 165 [.ref 104, w_i v] I J b Q := by
  obtain ⟨h1, h2, h3⟩ := h
  refine e165 (b165_0 ?_)
  have loop : ∀ (m : Nat) (j : Int) (I1 : w_I), j + m = 4 → 0 ≤ j → w_fr p165 I I1 → I1 104 0 = t + j → (∀ k, 0 ≤ k → k < t + j → I1 105 k = m_tp T t v k) → w_T xs xl 165 2 [some (.ref 104), some (w_i v), some (w_i j)] [] [] I1 J b Q := by
    intro m
    induction m with
    | zero =>
      intro j I1 a0 a1 a2 a3 a4
      have e : j = 4 := by omega
      subst e
      have kk := k I1 a2 ⟨a3, by omega, a4⟩
      refine b165_2 ?_
      try simp only [w_Ug, reduceIte, Nat.reduceEqDiff, Int.reduceEq, eq_self, if_true]
      repeat' (first | apply And.intro | intro)
      all_goals (try first | omega | contradiction | exact Or.inl trivial | exact Or.inr trivial)
    | succ m ih =>
      intro j I1 a0 a1 a2 a3 a4
      refine b165_2 ?_
      try simp only [w_Ug, reduceIte, Nat.reduceEqDiff, Int.reduceEq, eq_self, a3]
      repeat' (first | apply And.intro | intro)
      all_goals (try first | omega | contradiction | exact Or.inl trivial | exact Or.inr trivial)
      refine ih (j + 1) _ (by omega) (by omega) (w_frU (w_frU a2 rfl) rfl) ?_ (fun k x y => ?_)
      · simp only [w_Ug, reduceIte]
        omega
      · simp only [w_Ug, reduceIte, Nat.reduceEqDiff]
        by_cases e : k = t + j
        · rw [if_pos e, w_and255]
          unfold m_tp m_b4
          rw [if_neg (by omega), show k - t = j by omega]
        · rw [if_neg e]
          exact a4 k x (by omega)
  refine loop 4 0 I (by omega) (by omega) w_frr (by omega) (fun k x y => ?_)
  rw [h3 k x (by omega)]
  unfold m_tp
  rw [if_pos (by omega)]
def m_fd (T : Int → Int) (t a1 a2 a3 a4 a5 : Int) : Int → Int := m_tp (m_tp (m_tp (m_tp (m_tp T t a1) (t + 4) a2) (t + 4 + 4) a3) (t + 4 + 4 + 4) a4) (t + 4 + 4 + 4 + 4) a5
theorem c119 {T : Int → Int} {t a1 a2 a3 a4 a5 : Int} (h : c_tp I T t) (k0 : 1980 < t → Q (some (w_i (-1))) I J b) (k1 : t ≤ 1980 → ∀ I', w_fr p155 I I' → c_tp I' (m_fd T t a1 a2 a3 a4 a5) (t + 4 + 4 + 4 + 4 + 4) → Q (some (w_i (t + 20))) I' J b) : w_C xs xl 119 [.ref 0, w_i a1, w_i a2, w_i a3, w_i a4, w_i a5] I J b Q := by
  have h1 := h.1
  have h2 := h.2.1
  refine e119 ?_
  by_cases c : t ≤ 1980
  · refine b119_0 ?_
    try simp only [w_Ug, reduceIte, Nat.reduceEqDiff, Int.reduceEq, eq_self, h1]
    repeat' (first | apply And.intro | intro)
    all_goals (try first | omega | contradiction | exact Or.inl trivial | exact Or.inr trivial)
    refine c155 h (by omega) (fun I1 f1 t1 => b119_20 ?_)
    refine c155 t1 (by omega) (fun I2 f2 t2 => b119_25 ?_)
    refine c155 t2 (by omega) (fun I3 f3 t3 => b119_30 ?_)
    refine c155 t3 (by omega) (fun I4 f4 t4 => b119_36 ?_)
    refine c155 t4 (by omega) (fun I5 f5 t5 => b119_42 ?_)
    rw [t5.1, show t + 4 + 4 + 4 + 4 + 4 = t + 20 by omega]
    exact k1 c I5 (w_frt f1 (w_frt f2 (w_frt f3 (w_frt f4 f5)))) t5
  · have kk := k0 (by omega)
    refine b119_0 ?_
    try simp only [w_Ug, reduceIte, Nat.reduceEqDiff, Int.reduceEq, eq_self, h1]
    repeat' (first | apply And.intro | intro)
    all_goals (try first | omega | contradiction | exact Or.inl trivial | exact Or.inr trivial)
theorem s164 {T : Int → Int} {t a1 a2 a3 a4 a5 : Int} (h : s_tp I T t) (k0 : 1980 < t → Q (some (w_i (-1))) I J b) (k1 : t ≤ 1980 → ∀ I', w_fr p165 I I' → s_tp I' (m_fd T t a1 a2 a3 a4 a5) (t + 4 + 4 + 4 + 4 + 4) → Q (some (w_i (t + 20))) I' J b) : w_C xs xl 164 [.ref 104, w_i a1, w_i a2, w_i a3, w_i a4, w_i a5] I J b Q := by
  have h1 := h.1
  have h2 := h.2.1
  refine e164 ?_
  by_cases c : t ≤ 1980
  · refine b164_0 ?_
    try simp only [w_Ug, reduceIte, Nat.reduceEqDiff, Int.reduceEq, eq_self, h1]
    repeat' (first | apply And.intro | intro)
    all_goals (try first | omega | contradiction | exact Or.inl trivial | exact Or.inr trivial)
    refine s165 h (by omega) (fun I1 f1 t1 => b164_20 ?_)
    refine s165 t1 (by omega) (fun I2 f2 t2 => b164_25 ?_)
    refine s165 t2 (by omega) (fun I3 f3 t3 => b164_30 ?_)
    refine s165 t3 (by omega) (fun I4 f4 t4 => b164_36 ?_)
    refine s165 t4 (by omega) (fun I5 f5 t5 => b164_42 ?_)
    rw [t5.1, show t + 4 + 4 + 4 + 4 + 4 = t + 20 by omega]
    exact k1 c I5 (w_frt f1 (w_frt f2 (w_frt f3 (w_frt f4 f5)))) t5
  · have kk := k0 (by omega)
    refine b164_0 ?_
    try simp only [w_Ug, reduceIte, Nat.reduceEqDiff, Int.reduceEq, eq_self, h1]
    repeat' (first | apply And.intro | intro)
    all_goals (try first | omega | contradiction | exact Or.inl trivial | exact Or.inr trivial)
theorem c120 {T : Int → Int} {t n : Int} (h : c_tp I T t) (hn : w_in n) (k0 : ¬ (0 ≤ n ∧ n ≤ t) → Q (some (w_i (-1))) I J b) (k1 : 0 ≤ n ∧ n ≤ t → ∀ I', w_fr p155 I I' → c_tp I' T (t - n) → Q (some (w_i (t - n))) I' J b) : w_C xs xl 120 [.ref 0, w_i n] I J b Q := by
  obtain ⟨h1, h2, h3⟩ := h
  refine e120 ?_
  by_cases c : 0 ≤ n ∧ n ≤ t
  · refine b120_0 ?_
    try simp only [w_Ug, reduceIte, Nat.reduceEqDiff, Int.reduceEq, eq_self, h1]
    repeat' (first | apply And.intro | intro)
    all_goals (try first | omega | contradiction | exact Or.inl trivial | exact Or.inr trivial)
    exact k1 c _ (w_frU w_frr rfl) ⟨by simp only [w_Ug, reduceIte], by omega, fun k x y => h3 k x (by omega)⟩
  · have kk := k0 c
    refine b120_0 ?_
    try simp only [w_Ug, reduceIte, Nat.reduceEqDiff, Int.reduceEq, eq_self, h1]
    repeat' (first | apply And.intro | intro)
    all_goals (try first | omega | contradiction | exact Or.inl trivial | exact Or.inr trivial)
theorem s166 {T : Int → Int} {t n : Int} (h : s_tp I T t) (hn : w_in n) (k0 : ¬ (0 ≤ n ∧ n ≤ t) → Q (some (w_i (-1))) I J b) (k1 : 0 ≤ n ∧ n ≤ t → ∀ I', w_fr p165 I I' → s_tp I' T (t - n) → Q (some (w_i (t - n))) I' J b) : w_C xs xl 166 [.ref 104, w_i n] I J b Q := by
  obtain ⟨h1, h2, h3⟩ := h
  refine e166 ?_
  by_cases c : 0 ≤ n ∧ n ≤ t
  · refine b166_0 ?_
    try simp only [w_Ug, reduceIte, Nat.reduceEqDiff, Int.reduceEq, eq_self, h1]
    repeat' (first | apply And.intro | intro)
    all_goals (try first | omega | contradiction | exact Or.inl trivial | exact Or.inr trivial)
    exact k1 c _ (w_frU w_frr rfl) ⟨by simp only [w_Ug, reduceIte], by omega, fun k x y => h3 k x (by omega)⟩
  · have kk := k0 c
    refine b166_0 ?_
    try simp only [w_Ug, reduceIte, Nat.reduceEqDiff, Int.reduceEq, eq_self, h1]
    repeat' (first | apply And.intro | intro)
    all_goals (try first | omega | contradiction | exact Or.inl trivial | exact Or.inr trivial)
/-- moves told alone have changed -/
def m_om (s E : Int → Int) : Prop := ∀ k, k ≠ 10 → (k < 550 ∨ 670 ≤ k) → E k = s k
theorem m_wf_om {E : Int → Int} (wf : m_wf s) (h : m_om s E) (h10 : 0 ≤ E 10 ∧ E 10 ≤ 40) (hm : ∀ m, 0 ≤ m → m < E 10 → (0 ≤ E (550 + 3 * m) ∧ E (550 + 3 * m) ≤ 99) ∧ (0 ≤ E (550 + 3 * m + 1) ∧ E (550 + 3 * m + 1) < s 8) ∧ (0 ≤ E (550 + 3 * m + 2) ∧ E (550 + 3 * m + 2) < s 0)) : m_wf E := by
  obtain ⟨w0, w1, w2, w3, w4⟩ := wf.1
  have r : ∀ k, k ≠ 10 → k < 550 → E k = s k := fun k a c => h k a (Or.inl c)
  have ii : ∀ g, m_isF E g → m_isF s g := by
    intro g hg
    have h1 := hg.1
    have h2 := hg.2.1
    have h3 := hg.2.2
    rw [r _ (by omega) (by omega)] at h2
    rw [r _ (by omega) (by omega)] at h3
    exact ⟨h1, h2, h3⟩
  refine ⟨⟨?_, ?_, ?_, ?_, ?_⟩, ?_, ?_, ?_⟩
  · rw [r 0 (by omega) (by omega), r 1 (by omega) (by omega), r 2 (by omega) (by omega), r 3 (by omega) (by omega), r 4 (by omega) (by omega), r 7 (by omega) (by omega), r 8 (by omega) (by omega), r 9 (by omega) (by omega)]
    omega
  · intro k h0 h1
    rw [r 0 (by omega) (by omega)] at h1
    rw [r _ (by omega) (by omega), r _ (by omega) (by omega)]
    exact w1 k h0 h1
  · intro k h0 h1
    rw [r 7 (by omega) (by omega)] at h1
    rw [r (100 + 6 * k) (by omega) (by omega), r (100 + 6 * k + 1) (by omega) (by omega), r (100 + 6 * k + 2) (by omega) (by omega), r (100 + 6 * k + 3) (by omega) (by omega), r (100 + 6 * k + 4) (by omega) (by omega), r (100 + 6 * k + 5) (by omega) (by omega), r 8 (by omega) (by omega), r 9 (by omega) (by omega)]
    exact w2 k h0 h1
  · intro k h0 h1
    rw [r 8 (by omega) (by omega)] at h1
    rw [r (460 + 3 * k) (by omega) (by omega), r (460 + 3 * k + 1) (by omega) (by omega), r (460 + 3 * k + 2) (by omega) (by omega), r 0 (by omega) (by omega)]
    exact w3 k h0 h1
  · intro k h0 h1
    rw [r 8 (by omega) (by omega), r 0 (by omega) (by omega)]
    exact hm k h0 h1
  · intro p hp
    have h1 := hp.1
    have h2 := hp.2.1
    have h3 := hp.2.2
    rw [r _ (by omega) (by omega)] at h2
    rw [r _ (by omega) (by omega)] at h3
    have wp := w2 p h1 h2
    rw [r (100 + 6 * p + 5) (by omega) (by omega), r _ (by omega) (by omega)]
    exact wf.2.1 p ⟨h1, h2, h3⟩
  · intro g hg
    rw [m_szc (s := s) (r 7 (by omega) (by omega)) (fun i h0 h1 => ⟨r _ (by omega) (by omega), r _ (by omega) (by omega)⟩)]
    exact wf.2.2.1 g (ii g hg)
  · intro g g' hg hg' e1 e2
    have a1 := ii g hg
    have a2 := ii g' hg'
    have b1 := a1.1
    have b2 := a1.2.1
    have b3 := a2.1
    have b4 := a2.2.1
    rw [r _ (by omega) (by omega)] at e1
    rw [r _ (by omega) (by omega), r _ (by omega) (by omega)] at e2
    exact wf.2.2.2 g g' a1 a2 e1 e2
theorem c_rf_om {E : Int → Int} {I' : w_I} (rf : c_rf 20 I s) (w : m_w0 s) (h : m_om s E) (hfr : ∀ a, a ≠ 20 → a ≠ 31 → a ≠ 32 → a ≠ 33 → I' a = I a) (h20 : I' 20 13 = I 20 13 ∧ I' 20 14 = I 20 14 ∧ I' 20 15 = I 20 15) (h16 : I' 20 16 = E 10) (hm : ∀ m, 0 ≤ m → m < E 10 → I' 31 m = E (550 + 3 * m) ∧ I' 32 m = E (550 + 3 * m + 1) ∧ I' 33 m = E (550 + 3 * m + 2)) : c_rf 20 I' E := by
  have w0 := w.1
  have r : ∀ k, k ≠ 10 → k < 550 → E k = s k := fun k a c => h k a (Or.inl c)
  have dz : ∀ g, m_sz E g (-1) = m_sz s g (-1) := fun g => m_szc (s := s) (r 7 (by omega) (by omega)) (fun i h0 h1 => ⟨r _ (by omega) (by omega), r _ (by omega) (by omega)⟩) g (-1)
  have dl : ∀ g, m_lm E g (-1) = m_lm s g (-1) := fun g => m_lmc (s := s) (r 7 (by omega) (by omega)) (fun i h0 h1 => ⟨r _ (by omega) (by omega), r _ (by omega) (by omega), r _ (by omega) (by omega)⟩) g (-1)
  simp only [c_rf, Nat.reduceAdd] at rf
  obtain ⟨e13, e14, e15, e16, rp, rff, rh, rm⟩ := rf
  simp only [c_rf, Nat.reduceAdd]
  rw [h20.1, h20.2.1, h20.2.2, hfr 21 (by decide) (by decide) (by decide) (by decide), hfr 22 (by decide) (by decide) (by decide) (by decide), hfr 23 (by decide) (by decide) (by decide) (by decide), hfr 24 (by decide) (by decide) (by decide) (by decide), hfr 25 (by decide) (by decide) (by decide) (by decide), hfr 26 (by decide) (by decide) (by decide) (by decide), hfr 27 (by decide) (by decide) (by decide) (by decide), hfr 28 (by decide) (by decide) (by decide) (by decide), hfr 29 (by decide) (by decide) (by decide) (by decide), hfr 30 (by decide) (by decide) (by decide) (by decide)]
  rw [r 7 (by omega) (by omega), r 8 (by omega) (by omega), r 9 (by omega) (by omega)]
  refine ⟨e13, e14, e15, h16, ?_, ?_, ?_, hm⟩
  · intro k h0 h1
    rw [r (100 + 6 * k) (by omega) (by omega), r (100 + 6 * k + 1) (by omega) (by omega), r (100 + 6 * k + 2) (by omega) (by omega), r (100 + 6 * k + 3) (by omega) (by omega), r (100 + 6 * k + 4) (by omega) (by omega), r (100 + 6 * k + 5) (by omega) (by omega)]
    exact rp k h0 h1
  · intro g h0 h1
    rw [dz, dl, r (460 + 3 * g) (by omega) (by omega), r (460 + 3 * g + 1) (by omega) (by omega), r (460 + 3 * g + 2) (by omega) (by omega)]
    exact rff g h0 h1
  · intro h' h0 h1
    have rh' := rh h' h0 h1
    refine ⟨fun x g hg => ?_, fun x => ?_⟩
    · have g1 := hg.1
      have g2 := hg.2.1
      have g3 := hg.2.2
      rw [r _ (by omega) (by omega)] at g2
      rw [r _ (by omega) (by omega)] at g3
      rw [r _ (by omega) (by omega)]
      exact rh'.1 x g ⟨g1, g2, g3⟩
    · obtain ⟨q1, q2⟩ := rh'.2 x
      have a1 := q1.1
      have a2 := q1.2.1
      refine ⟨⟨q1.1, by rw [r _ (by omega) (by omega)]; exact q1.2.1, ?_⟩, ?_⟩
      · rw [r _ (by omega) (by omega)]; exact q1.2.2
      · rw [r _ (by omega) (by omega)]; exact q2
def m_mov (s : Int → Int) (mo f h : Int) : Int → Int := u1 (u1 (u1 (u1 s (550 + 3 * s 10) mo) (550 + 3 * s 10 + 1) f) (550 + 3 * s 10 + 2) h) 10 (s 10 + 1)
theorem m_mov_om {mo f h : Int} (w : m_w0 s) (h10 : s 10 < 40) : m_om s (m_mov s mo f h) := by
  have w0 := w.1
  intro k h1 h2
  unfold m_mov
  rw [u1g, if_neg h1, u1g, if_neg (by omega), u1g, if_neg (by omega), u1g, if_neg (by omega)]
theorem m_mov_g {mo f h : Int} (w : m_w0 s) : m_mov s mo f h 10 = s 10 + 1 ∧ (∀ m, 0 ≤ m → m < s 10 → m_mov s mo f h (550 + 3 * m) = s (550 + 3 * m) ∧ m_mov s mo f h (550 + 3 * m + 1) = s (550 + 3 * m + 1) ∧ m_mov s mo f h (550 + 3 * m + 2) = s (550 + 3 * m + 2)) ∧ m_mov s mo f h (550 + 3 * s 10) = mo ∧ m_mov s mo f h (550 + 3 * s 10 + 1) = f ∧ m_mov s mo f h (550 + 3 * s 10 + 2) = h := by
  have w0 := w.1
  unfold m_mov
  refine ⟨by rw [u1g, if_pos rfl], fun m x y => ⟨?_, ?_, ?_⟩, ?_, ?_, ?_⟩
  · rw [u1g, if_neg (by omega), u1g, if_neg (by omega), u1g, if_neg (by omega), u1g, if_neg (by omega)]
  · rw [u1g, if_neg (by omega), u1g, if_neg (by omega), u1g, if_neg (by omega), u1g, if_neg (by omega)]
  · rw [u1g, if_neg (by omega), u1g, if_neg (by omega), u1g, if_neg (by omega), u1g, if_neg (by omega)]
  · rw [u1g, if_neg (by omega), u1g, if_neg (by omega), u1g, if_neg (by omega), u1g, if_pos rfl]
  · rw [u1g, if_neg (by omega), u1g, if_neg (by omega), u1g, if_pos rfl]
  · rw [u1g, if_neg (by omega), u1g, if_pos rfl]
abbrev m_mvk (s : Int → Int) (mo f h : Int) : Prop := s 10 < 40 ∧ (0 ≤ mo ∧ mo ≤ 99) ∧ (0 ≤ f ∧ f < s 8) ∧ (0 ≤ h ∧ h < s 0)
theorem m_wf_mov {mo f h : Int} (wf : m_wf s) (hk : m_mvk s mo f h) : m_wf (m_mov s mo f h) := by
  have w := wf.1
  have w0 := w.1
  obtain ⟨g1, g2, g3, g4, g5⟩ := m_mov_g (mo := mo) (f := f) (h := h) w
  refine m_wf_om wf (m_mov_om w hk.1) (by omega) (fun m x y => ?_)
  by_cases e : m = s 10
  · subst e
    rw [g3, g4, g5]
    exact hk.2
  · obtain ⟨q1, q2, q3⟩ := g2 m x (by omega)
    rw [q1, q2, q3]
    exact w.2.2.2.2 m x (by omega)
theorem c143 {mo f h : Int} (rf : c_rf 20 I s) (rt : c_rt I s) (wf : m_wf s) (h1 : w_in mo) (h2 : w_in f) (h3 : w_in h) (k0 : ¬ m_mvk s mo f h → Q (some (w_i (-1))) I J b) (k1 : m_mvk s mo f h → ∀ I', w_fr pF I I' → c_rf 20 I' (m_mov s mo f h) → Q (some (w_i (s 10))) I' J b) : w_C xs xl 143 [.ref 0, w_i mo, w_i f, w_i h] I J b Q := by
  have w := wf.1
  have w0 := w.1
  have rf' := rf
  simp only [c_rf, Nat.reduceAdd] at rf'
  obtain ⟨r13, r14, r15, r16, -, -, -, rm⟩ := rf'
  refine e143 ?_
  by_cases c : s 10 < 40 ∧ (0 ≤ mo ∧ mo ≤ 99) ∧ (0 ≤ f ∧ f < s 8)
  · refine b143_0 ?_
    try simp only [w_Ug, reduceIte, Nat.reduceEqDiff, Int.reduceEq, eq_self, r14, r16]
    repeat' (first | apply And.intro | intro)
    all_goals (try first | omega | contradiction | exact Or.inl trivial | exact Or.inr trivial)
    refine c156 rt w h3 (fun c2 => ?_) (fun c2 => ?_)
    · have hk : m_mvk s mo f h := ⟨c.1, c.2.1, c.2.2, c2⟩
      obtain ⟨g1, g2, g3, g4, g5⟩ := m_mov_g (mo := mo) (f := f) (h := h) w
      refine b143_44 ?_
      try simp only [w_Ug, reduceIte, Nat.reduceEqDiff, Int.reduceEq, eq_self, if_true]
      repeat' (first | apply And.intro | intro)
      all_goals (try first | omega | contradiction | exact Or.inl trivial | exact Or.inr trivial)
      refine e19 ?_
      refine b19_0 ?_
      try simp only [w_Ug, reduceIte, Nat.reduceEqDiff, Int.reduceEq, eq_self, r16]
      repeat' (first | apply And.intro | intro)
      all_goals (try first | omega | contradiction | exact Or.inl trivial | exact Or.inr trivial)
      refine b143_59 (k1 hk _ (w_frU (w_frU (w_frU (w_frU w_frr rfl) rfl) rfl) rfl) (c_rf_om rf w (m_mov_om w c.1) (fun a x1 x2 x3 x4 => ?_) ?_ ?_ (fun m x y => ?_)))
      · rw [w_Ua x1, w_Ua x4, w_Ua x3, w_Ua x2]
      · simp only [w_Ug, reduceIte, Nat.reduceEqDiff, Int.reduceEq, and_self]
      · simp only [w_Ug, reduceIte, g1]
      · rw [g1] at y
        simp only [w_Ug, reduceIte, Nat.reduceEqDiff]
        by_cases e : m = s 10
        · subst e
          simp only [if_true]
          exact ⟨g3.symm, g4.symm, g5.symm⟩
        · simp only [if_neg e]
          obtain ⟨q1, q2, q3⟩ := g2 m x (by omega)
          rw [q1, q2, q3]
          exact rm m x (by omega)
    · have kk := k0 (fun x => c2 x.2.2.2)
      refine b143_44 ?_
      try simp only [w_Ug, reduceIte, Nat.reduceEqDiff, Int.reduceEq, eq_self, if_true]
      repeat' (first | apply And.intro | intro)
      all_goals (try first | omega | contradiction | exact Or.inl trivial | exact Or.inr trivial)
  · have kk := k0 (fun x => c ⟨x.1, x.2.1, x.2.2.1⟩)
    refine b143_0 ?_
    try simp only [w_Ug, reduceIte, Nat.reduceEqDiff, Int.reduceEq, eq_self, r14, r16]
    repeat' (first | apply And.intro | intro)
    all_goals (try first | omega | contradiction | exact Or.inl trivial | exact Or.inr trivial)
theorem s261 {mo f h : Int} (hs : I 110 = s) (wf : m_wf s) (h1 : w_in mo) (h2 : w_in f) (h3 : w_in h) (k0 : ¬ m_mvk s mo f h → Q (some (w_i (-1))) I J b) (k1 : m_mvk s mo f h → ∀ I', w_fr p110 I I' → I' 110 = m_mov s mo f h → Q (some (w_i (s 10))) I' J b) : w_C xs xl 261 [.ref 104, w_i mo, w_i f, w_i h] I J b Q := by
  have w := wf.1
  have w0 := w.1
  refine e261 ?_
  by_cases c1 : s 10 = 40
  · have kk := k0 (fun x => by have := x.1; omega)
    refine b261_0 ?_
    try simp only [w_Ug, reduceIte, Nat.reduceEqDiff, Int.reduceEq, eq_self, hs]
    repeat' (first | apply And.intro | intro)
    all_goals (try first | omega | contradiction | exact Or.inl trivial | exact Or.inr trivial)
  · refine b261_0 ?_
    try simp only [w_Ug, reduceIte, Nat.reduceEqDiff, Int.reduceEq, eq_self, hs]
    repeat' (first | apply And.intro | intro)
    all_goals (try first | omega | contradiction | exact Or.inl trivial | exact Or.inr trivial)
    refine s209 h1 (by decide) (by decide) (fun c2 => ?_) (fun c2 => ?_)
    · by_cases c3 : 0 ≤ f ∧ f < s 8
      · refine b261_19 ?_
        try simp only [w_Ug, reduceIte, Nat.reduceEqDiff, Int.reduceEq, eq_self, hs]
        repeat' (first | apply And.intro | intro)
        all_goals (try first | omega | contradiction | exact Or.inl trivial | exact Or.inr trivial)
        refine s212 hs w h3 (fun c4 => ?_) (fun c4 => ?_)
        · have hk : m_mvk s mo f h := ⟨by omega, c2, c3, c4⟩
          have kk := k1 hk (w_U (w_U (w_U (w_U I 110 (550 + 3 * s 10) mo) 110 (550 + 3 * s 10 + 1) f) 110 (550 + 3 * s 10 + 2) h) 110 10 (s 10 + 1)) (w_frU (w_frU (w_frU (w_frU w_frr rfl) rfl) rfl) rfl) (by
            unfold m_mov
            rw [w_U1, w_U1, w_U1, w_U1, hs])
          have e10 : (w_U (w_U (w_U I 110 (550 + 3 * s 10) mo) 110 (550 + 3 * s 10 + 1) f) 110 (550 + 3 * s 10 + 2) h) 110 10 = s 10 := by
            rw [w_Ug, if_pos rfl, if_neg (by omega), w_Ug, if_pos rfl, if_neg (by omega), w_Ug, if_pos rfl, if_neg (by omega), hs]
          refine b261_42 ?_
          rw [hs, e10]
          refine ⟨by decide, fun _ => ⟨by omega, by omega, by omega, ?_⟩, fun x => by omega⟩
          rw [show s 10 + 1 - 1 = s 10 by omega]
          exact kk
        · have kk := k0 (fun x => c4 x.2.2.2)
          refine b261_42 ?_
          try simp only [w_Ug, reduceIte, Nat.reduceEqDiff, Int.reduceEq, eq_self, hs]
          repeat' (first | apply And.intro | intro)
          all_goals (try first | omega | contradiction | exact Or.inl trivial | exact Or.inr trivial)
      · have kk := k0 (fun x => c3 x.2.2.1)
        refine b261_19 ?_
        try simp only [w_Ug, reduceIte, Nat.reduceEqDiff, Int.reduceEq, eq_self, hs]
        repeat' (first | apply And.intro | intro)
        all_goals (try first | omega | contradiction | exact Or.inl trivial | exact Or.inr trivial)
    · have kk := k0 (fun x => c2 x.2.1)
      refine b261_19 ?_
      try simp only [w_Ug, reduceIte, Nat.reduceEqDiff, Int.reduceEq, eq_self, hs]
      repeat' (first | apply And.intro | intro)
      all_goals (try first | omega | contradiction | exact Or.inl trivial | exact Or.inr trivial)
theorem m_fg_om : m_om s (u1 s 10 0) := fun k h1 _ => by rw [u1g, if_neg h1]
theorem m_wf_fg (wf : m_wf s) : m_wf (u1 s 10 0) := by
  refine m_wf_om wf m_fg_om (by rw [u1g, if_pos rfl]; omega) (fun m x y => ?_)
  rw [u1g, if_pos rfl] at y
  omega
theorem c_rf_fg (rf : c_rf 20 I s) (w : m_w0 s) : c_rf 20 (w_U I 20 16 0) (u1 s 10 0) := by
  refine c_rf_om rf w m_fg_om (fun a x _ _ _ => w_Ua x) (by simp only [w_Ug, reduceIte, Int.reduceEq, and_self]) ?_ (fun m x y => ?_)
  · rw [u1g, if_pos rfl, w_Ug, if_pos rfl, if_pos rfl]
  · rw [u1g, if_pos rfl] at y
    omega
theorem c144 (rf : c_rf 20 I s) (w : m_w0 s) (k : ∀ I', w_fr pF I I' → c_rf 20 I' (u1 s 10 0) → Q (some (w_i (s 10))) I' J b) : w_C xs xl 144 [.ref 0] I J b Q := by
  have r16 : I 20 16 = s 10 := by
    have rf' := rf
    simp only [c_rf, Nat.reduceAdd] at rf'
    exact rf'.2.2.2.1
  refine e144 (b144_0 ?_)
  rw [r16]
  exact k _ (w_frU w_frr rfl) (c_rf_fg rf w)
theorem s262 (hs : I 110 = s) (k : ∀ I', w_fr p110 I I' → I' 110 = u1 s 10 0 → Q (some (w_i (s 10))) I' J b) : w_C xs xl 262 [.ref 104] I J b Q := by
  refine e262 (b262_0 ?_)
  rw [hs]
  exact k _ (w_frU w_frr rfl) (by rw [w_U1, hs])
end
