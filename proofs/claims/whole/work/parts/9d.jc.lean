section
/-! reading, both: the calls -/
variable {xs : Nat → Int32} {xl : Nat} {I J : w_I} {b : Bool} {Q : Option Value → w_I → w_I → Bool → Prop}
variable {G K V P M : Int → Int} {n N h : Int} {S : z_S}
theorem c103 (h10 : I 9 10 = 0 ∨ I 9 10 = 1) (k : ∀ I', (∀ a, (a < 2 ∨ 7 < a) → I' a = I a) → (∀ j, 5 ≤ j → j ≤ 10 → I' 2 j = I 9 j) → (∀ j, 0 ≤ j → j < 24 → I' 3 j = I 10 j ∧ I' 4 j = I 11 j) → (∀ j, 0 ≤ j → j < 404 → I' 5 j = I 12 j) → (∀ j, 0 ≤ j → j < 10 → I' 6 j = I 13 j ∧ I' 7 j = I 14 j) → Q none I' J b) : w_C xs xl 103 [.ref 2, .ref 9] I J b Q := by
  refine e103 (b103_0 ⟨h10, ?_⟩)
  refine k _ (fun a ha => ?_) (fun j x y => ?_) (fun j x y => ?_) (fun j x y => ?_) (fun j x y => ?_)
  · rw [w_Ua (by omega), w_Ua (by omega), w_Ua (by omega), w_Ua (by omega), w_Ua (by omega), w_Ua (by omega), w_cpa (by omega), w_cpa (by omega), w_cpa (by omega), w_cpa (by omega), w_cpa (by omega)]
  · have : j = 5 ∨ j = 6 ∨ j = 7 ∨ j = 8 ∨ j = 9 ∨ j = 10 := by omega
    rcases this with rfl | rfl | rfl | rfl | rfl | rfl <;> simp [w_Ug]
  · simp only [w_cpg, w_Ug, reduceIte, Nat.reduceEqDiff]
    simp (disch := omega) only [if_pos]
    rw [show (0 : Int) + (j - 0) = j by omega]
    exact ⟨rfl, rfl⟩
  · simp only [w_cpg, w_Ug, reduceIte, Nat.reduceEqDiff]
    simp (disch := omega) only [if_pos]
    rw [show (0 : Int) + (j - 0) = j by omega]
  · simp only [w_cpg, w_Ug, reduceIte, Nat.reduceEqDiff]
    simp (disch := omega) only [if_pos]
    rw [show (0 : Int) + (j - 0) = j by omega]
    exact ⟨rfl, rfl⟩
theorem c2 (k : ∀ I', (∀ a, a ≠ 20 → a ≠ 30 → I' a = I a) → (I' 20 13 = 0 ∧ I' 20 14 = 0 ∧ I' 20 15 = 0 ∧ I' 20 16 = 0) → (∀ j, 0 ≤ j → j < 24 → I' 30 j = -1) → Q none I' J b) : w_C xs xl 2 [.ref 20] I J b Q := by
  refine e2 (b2_0 (e3 (b3_0 (f295_30 (fun I' f g => b3_8 (b2_24 (k I' (fun a x y => ?_) ⟨?_, ?_, ?_, ?_⟩ g)))))))
  · rw [f a y, w_Ua x, w_Ua x, w_Ua x, w_Ua x]
  · rw [f 20 (by decide)]; simp [w_Ug]
  · rw [f 20 (by decide)]; simp [w_Ug]
  · rw [f 20 (by decide)]; simp [w_Ug]
  · rw [f 20 (by decide)]; simp [w_Ug]
/-- what is told, as the class keeps it -/
def zD (I : w_I) (S : z_S) : Prop := (I 2 5 = (q_sd S).length ∧ z_at (I 3) 0 (q_sd S) ∧ z_at (I 4) 0 (q_gd S)) ∧ (I 2 6 = q_st S ∧ I 2 7 = q_la S ∧ I 2 10 = q_by S ∧ I 2 8 = (q_ru S).length) ∧ (∀ w, 0 ≤ w → w < 4 → 0 ≤ I 6 w ∧ I 7 w = I 6 w + (z_dw (q_lw S w) w).length ∧ I 7 w ≤ 404 ∧ z_at (I 5) (I 6 w) (z_dw (q_lw S w) w)) ∧ ∀ (r : Nat) (L : List z_L), (q_ru S)[r]? = some L → 0 ≤ I 6 (4 + r) ∧ I 7 (4 + r) = I 6 (4 + r) + (z_rw L 0).length ∧ I 7 (4 + r) ≤ 404 ∧ z_at (I 5) (I 6 (4 + r)) (z_rw L 0)
theorem zD_c (hz : zC I G n K V P N h S) (hq : zQ K h S) (hh : h ≤ 400) {I' : w_I} (g1 : ∀ j, 5 ≤ j → j ≤ 10 → I' 2 j = I 9 j) (g2 : ∀ j, 0 ≤ j → j < 24 → I' 3 j = I 10 j ∧ I' 4 j = I 11 j) (g3 : ∀ j, 0 ≤ j → j < 404 → I' 5 j = I 12 j) (g4 : ∀ j, 0 ≤ j → j < 10 → I' 6 j = I 13 j ∧ I' 7 j = I 14 j) : zD I' S := by
  obtain ⟨-, -, -, ⟨b1, b2, b3, b4⟩, ⟨c1, c2, c3, c4⟩, d, e1, e2⟩ := hz
  obtain ⟨⟨q1, q2, q3, q4⟩, -⟩ := hq
  refine ⟨⟨?_, z_at_c _ _ (fun j x y => (g2 j x (by omega)).1) b2, z_at_c _ _ (fun j x y => (g2 j x (by omega)).2) b3⟩, ⟨?_, ?_, ?_, ?_⟩, fun w x y => ?_, fun r L e => ?_⟩
  · rw [g1 5 (by decide) (by decide)]; exact b1
  · rw [g1 6 (by decide) (by decide)]; exact c1
  · rw [g1 7 (by decide) (by decide)]; exact c2
  · rw [g1 10 (by decide) (by decide)]; exact c3
  · rw [g1 8 (by decide) (by decide)]; exact c4
  · obtain ⟨a1, a2, a3, a4⟩ := e1 w x y
    obtain ⟨u1, u2⟩ := g4 w x (by omega)
    rw [u1, u2]
    exact ⟨a1, a2, by omega, z_at_c _ _ (fun j x y => g3 j (by omega) (by omega)) a4⟩
  · have hr : r < (q_ru S).length := (List.getElem?_eq_some_iff.mp e).1
    obtain ⟨a1, a2, a3, a4⟩ := e2 r L e
    obtain ⟨u1, u2⟩ := g4 (4 + r) (by omega) (by omega)
    rw [u1, u2]
    exact ⟨a1, a2, by omega, z_at_c _ _ (fun j x y => g3 j (by omega) (by omega)) a4⟩
def p121 (a : Nat) (k : Int) : Bool := (a == 0 && (k == 1 || k == 2)) || (Nat.ble 8 a && Nat.ble a 19)
def t_G (T : Int → Int) (t : Int) : Int → Int := fun k => if k < t then T k else 0
theorem pzZ_121 {I I' : w_I} (f : w_fr pzZ I I') : w_fr p121 I I' := w_frm f (fun a k e => (Bool.or_eq_false_iff.mp e).2)
theorem c121 {T : Int → Int} {t : Int} (hT : c_tp I T t) {R : z_R} (hR : z_all (t_K (t_G T t) t) (t_V (t_G T t) t) (t_N (t_G T t) t) 401 0 z_S0 = R)
    (k0 : R.1 ≠ 0 → ∀ I', w_fr p121 I I' → I' 0 1 = 0 → I' 0 2 = t_P (t_G T t) t R.2.1 → Q (some (w_i R.1)) I' J b)
    (k1 : R.1 = 0 → q_ln R.2.2 ≠ 0 → ∀ I', w_fr p121 I I' → I' 0 1 = 0 → I' 0 2 = t_P (t_G T t) t (q_li R.2.2) → Q (some (w_i (q_ln R.2.2))) I' J b)
    (k2 : R.1 = 0 → q_ln R.2.2 = 0 → ∀ I', (∀ a, (33 < a ∧ a ≠ 49) ∨ a = 1 → I' a = I a) → I' 0 1 = 0 → I' 0 2 = -1 → zD I' R.2.2 → (I' 20 13 = 0 ∧ I' 20 14 = 0 ∧ I' 20 15 = 0 ∧ I' 20 16 = 0) → (∀ j, 0 ≤ j → j < 24 → I' 30 j = -1) → I' 49 0 = 0 → I' 49 1 = 0 → (∃ K, zQ K R.2.1 R.2.2) → zV2 R.2.2 → R.2.1 ≤ 400 → Q (some (w_i 0)) I' J b) : w_C xs xl 121 [.ref 0] I J b Q := by
  obtain ⟨h1, h2, h3⟩ := hT
  refine e121 (b121_0 ?_)
  rw [h1]
  have g1 : ∀ k, 0 ≤ k → k < t → I 1 k % 256 = t_G T t k := fun k x y => by
    unfold t_G
    rw [if_pos y]
    exact h3 k x y
  refine c64 (G := t_G T t) h2 g1 (fun k x => if_neg (by omega)) hR (fun r rn I' f e => ?_) (fun r l rn I' f e => ?_) (fun r l N I' hN f z q v hh => ?_)
  · have kk := k0 r (w_U (w_U I' 0 1 0) 0 2 (I' 8 11)) (w_frU (w_frU (pzZ_121 f) rfl) rfl) (by simp [w_Ug]) (by simp [w_Ug]; exact e)
    refine b121_11 ?_
    try simp only [w_Ug, reduceIte, Nat.reduceEqDiff, Int.reduceEq, eq_self, if_true]
    repeat' (first | apply And.intro | intro)
    all_goals (try first | omega | contradiction | exact Or.inl trivial | exact Or.inr trivial)
  · have kk := k1 r l (w_U (w_U I' 0 1 0) 0 2 (I' 8 11)) (w_frU (w_frU (pzZ_121 f) rfl) rfl) (by simp [w_Ug]) (by simp [w_Ug]; exact e)
    refine b121_11 ?_
    try simp only [w_Ug, reduceIte, Nat.reduceEqDiff, Int.reduceEq, eq_self, if_true]
    repeat' (first | apply And.intro | intro)
    all_goals (try first | omega | contradiction | exact Or.inl trivial | exact Or.inr trivial)
  · have h10 : I' 9 10 = 0 ∨ I' 9 10 = 1 := by
      rw [z.2.2.2.2.1.2.2.1]
      exact v.2.2.2.2.2.1
    have fin : w_C xs xl 103 [.ref 2, .ref 9] (w_U (w_U I' 0 1 0) 0 2 (-1)) J b (fun v Ic Jc bc => w_T xs xl 121 54 [some (.ref 0), some (w_i 0), none] [] (w_pv v []) Ic Jc bc Q) := by
      refine c103 (by rw [w_Ua (by decide), w_Ua (by decide)]; exact h10) (fun I2 f2 d1 d2 d3 d4 => b121_54 (c2 (fun I3 f3 d5 d6 => b121_61 ?_)))
      have zd : zD I3 R.2.2 := by
        refine zD_c z q hh (fun j x y => ?_) (fun j x y => ?_) (fun j x y => ?_) (fun j x y => ?_)
        · rw [f3 2 (by decide) (by decide), d1 j x y, w_Ua (by decide), w_Ua (by decide)]
        · rw [f3 3 (by decide) (by decide), f3 4 (by decide) (by decide), (d2 j x y).1, (d2 j x y).2, w_Ua (by decide), w_Ua (by decide), w_Ua (by decide), w_Ua (by decide)]
          exact ⟨rfl, rfl⟩
        · rw [f3 5 (by decide) (by decide), d3 j x y, w_Ua (by decide), w_Ua (by decide)]
        · rw [f3 6 (by decide) (by decide), f3 7 (by decide) (by decide), (d4 j x y).1, (d4 j x y).2, w_Ua (by decide), w_Ua (by decide), w_Ua (by decide), w_Ua (by decide)]
          exact ⟨rfl, rfl⟩
      have zd2 : zD (w_U (w_U I3 49 0 0) 49 1 0) R.2.2 := by
        have e : ∀ a, a ≠ 49 → (w_U (w_U I3 49 0 0) 49 1 0) a = I3 a := fun a x => by rw [w_Ua x, w_Ua x]
        unfold zD
        rw [e 2 (by decide), e 3 (by decide), e 4 (by decide), e 5 (by decide), e 6 (by decide), e 7 (by decide)]
        exact zd
      have kk := k2 r l (w_U (w_U I3 49 0 0) 49 1 0) (fun a x => ?_) ?_ ?_ zd2 ?_ ?_ (by simp [w_Ug]) (by simp [w_Ug]) ⟨_, q⟩ v hh
      · refine b121_63 ?_
        try simp only [w_Ug, reduceIte, Nat.reduceEqDiff, Int.reduceEq, eq_self, if_true]
        repeat' (first | apply And.intro | intro)
        all_goals (try first | omega | contradiction | exact Or.inl trivial | exact Or.inr trivial)
        rw [show (0 : Int) + 1 = 1 by decide]
        refine b121_63 ?_
        try simp only [w_Ug, reduceIte, Nat.reduceEqDiff, Int.reduceEq, eq_self, if_true]
        repeat' (first | apply And.intro | intro)
        all_goals (try first | omega | contradiction | exact Or.inl trivial | exact Or.inr trivial)
        rw [show (1 : Int) + 1 = 2 by decide]
        refine b121_63 ?_
        try simp only [w_Ug, reduceIte, Nat.reduceEqDiff, Int.reduceEq, eq_self, if_true]
        repeat' (first | apply And.intro | intro)
        all_goals (try first | omega | contradiction | exact Or.inl trivial | exact Or.inr trivial)
      · have na : a ≠ 49 := by omega
        rw [w_Ua na, w_Ua na, f3 a (by omega) (by omega), f2 a (by omega), w_Ua (by omega), w_Ua (by omega)]
        refine w_frA f (fun k => ?_)
        unfold pzZ
        have : Nat.ble 8 a = false ∨ Nat.ble a 19 = false := by
          cases x1 : Nat.ble 8 a
          · exact Or.inl rfl
          · cases x2 : Nat.ble a 19
            · exact Or.inr rfl
            · have := Nat.le_of_ble_eq_true x1
              have := Nat.le_of_ble_eq_true x2
              omega
        rcases this with z | z
        · rw [z]; rfl
        · rw [z, Bool.and_false]
      · rw [w_Ua (by decide), w_Ua (by decide), f3 0 (by decide) (by decide), f2 0 (by decide)]; simp [w_Ug]
      · rw [w_Ua (by decide), w_Ua (by decide), f3 0 (by decide) (by decide), f2 0 (by decide)]; simp [w_Ug]
      · rw [w_Ua (by decide), w_Ua (by decide)]; exact d5
      · rw [w_Ua (by decide), w_Ua (by decide)]; exact d6
    refine b121_11 ?_
    try simp only [w_Ug, reduceIte, Nat.reduceEqDiff, Int.reduceEq, eq_self, if_true]
    repeat' (first | apply And.intro | intro)
    all_goals (try first | omega | contradiction | exact Or.inl trivial | exact Or.inr trivial)
end
