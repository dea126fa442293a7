section
/-! calls: unlawful, pair -/
variable {xs : Nat → Int32} {xl : Nat} {I J : w_I} {b : Bool} {Q : Option Value → w_I → w_I → Bool → Prop}
variable {s : Int → Int}
def pX (a : Nat) (k : Int) : Bool := pA a k || pW a k
theorem pA_X {I I' : w_I} (h : w_fr pA I I') : w_fr pX I I' := w_frm h (fun a k e => by
  unfold pX at e
  cases h : pA a k
  · rfl
  · rw [h, Bool.true_or] at e; cases e)
theorem pW_X {I I' : w_I} (h : w_fr pW I I') : w_fr pX I I' := w_frm h (fun a k e => by
  unfold pX at e
  cases h : pW a k
  · rfl
  · rw [h, Bool.or_true] at e; cases e)
theorem pA_rf {I I' : w_I} (h : w_fr pA I I') (rf : c_rf 20 I s) : c_rf 20 I' s := c_rf_fr (fun x h1 h2 => w_frA h (fun k => by
  have e1 : (x == 82) = false := by simp; omega
  have e2 : (x == 83) = false := by simp; omega
  simp only [pA, e1, e2, Bool.or_false])) rf
theorem pA_rt {I I' : w_I} (h : w_fr pA I I') (rt : c_rt I s) : c_rt I' s := by
  unfold c_rt
  rw [w_frA h (fun _ => rfl), w_frA (a := 3) h (fun _ => rfl), w_frA (a := 4) h (fun _ => rfl)]
  exact rt
theorem c132 {F : m_F} {U : Int → Int → Bool} {wh t by' : Int} (rf : c_rf 20 I s) (rt : c_rt I s) (wf : m_wf s) (cd : c_cd (I 5) (I 6) (I 7) F s) (hw : w_in wh) (ht : (wh = 1 → t = 1) ∧ (wh ≠ 1 → t = 0)) (hby : (wh = 2 → by' = 1 - s 3) ∧ (wh ≠ 2 → by' = s 3)) (hU : ∀ a d, 0 ≤ a → a < d → d < s 0 → (U a d = true ↔ m_unl F s t by' a d))
    (k : ∀ I', w_fr pX I I' → Q (some (w_i (if 0 ≤ wh ∧ wh ≤ 2 then (u_scan U (s 0) (-1) 700 0 1 0).2 else -1))) I' J b) : w_C xs xl 132 [.ref 0, w_i wh] I J b Q := by
  have w0 := wf.1.1
  have t10 : I 2 10 = s 3 := rt.2.2.2.2.1
  have t6 : I 2 6 = s 1 := rt.2.1
  refine e132 ?_
  by_cases h : 0 ≤ wh ∧ wh ≤ 2
  · rw [if_pos h] at k
    have go : ∀ (u1 u2 : Option Value), w_C xs xl 22 [.ref 78, w_i by', w_i t, w_i (s 1)] I J b (fun v Ic Jc bc => w_T xs xl 132 67 [some (.ref 0), u1, u2] [] (w_pv v []) Ic Jc bc Q) := by
      intro u1 u2
      refine c22 rf wf (by omega) (by omega) (by omega) (fun I1 h1 h2 => b132_67 ?_)
      have fr1 := pA_fr h1
      refine c25 (pA_rf fr1 rf) (pA_rt fr1 rt) wf (c_cd_fr cd fr1 (fun _ => rfl) (fun _ => rfl) (fun _ => rfl)) h2 (by decide) hU (fun I2 fr2 e2 => b132_75 ?_)
      rw [e2]
      exact k I2 (w_frt (pA_X fr1) (pW_X fr2))
    refine b132_0 ?_
    try simp only [w_Ug, reduceIte, Nat.reduceEqDiff, Int.reduceEq, eq_self, t10, t6]
    repeat' (first | apply And.intro | intro)
    all_goals (try first | omega | contradiction | exact Or.inl trivial | exact Or.inr trivial)
    all_goals
      have go := go
      first
        | (have e1 : t = 0 := by omega
           subst e1
           first
             | (rw [show s 3 = by' by omega]; exact go _ _)
             | (have e2 : by' = 0 := by omega
                subst e2
                exact go _ _)
             | (have e2 : by' = 1 := by omega
                subst e2
                exact go _ _))
        | (have e1 : t = 1 := by omega
           subst e1
           rw [show s 3 = by' by omega]
           exact go _ _)
  · rw [if_neg h] at k
    have k := k I w_frr
    refine b132_0 ?_
    try simp only [w_Ug, reduceIte, Nat.reduceEqDiff, Int.reduceEq, eq_self, t10, t6]
    repeat' (first | apply And.intro | intro)
    all_goals (try first | omega | contradiction | exact Or.inl trivial | exact Or.inr trivial)
theorem c133 {F : m_F} {U : Int → Int → Bool} {i : Int} (rf : c_rf 20 I s) (rt : c_rt I s) (wf : m_wf s) (cd : c_cd (I 5) (I 6) (I 7) F s) (hi : w_in i) (hU : ∀ a d, 0 ≤ a → a < d → d < s 0 → (U a d = true ↔ m_unl F s 0 (s 3) a d))
    (k : ∀ I', w_fr pX I I' → Q (some (w_i (if 0 ≤ i then (u_scan U (s 0) i 700 0 1 0).1 else -1))) I' J b) : w_C xs xl 133 [.ref 0, w_i i] I J b Q := by
  refine e133 ?_
  by_cases h : 0 ≤ i
  · rw [if_pos h] at k
    refine b133_0 ?_
    try simp only [w_Ug, reduceIte, Nat.reduceEqDiff, Int.reduceEq, eq_self, if_true]
    repeat' (first | apply And.intro | intro)
    all_goals (try first | omega | contradiction | exact Or.inl trivial | exact Or.inr trivial)
    refine c21 rf rt wf (fun I1 h1 h2 => b133_13 ?_)
    have fr1 := pA_fr h1
    exact c25 (pA_rf fr1 rf) (pA_rt fr1 rt) wf (c_cd_fr cd fr1 (fun _ => rfl) (fun _ => rfl) (fun _ => rfl)) h2 hi hU (fun I2 fr2 e2 => b133_21 (k I2 (w_frt (pA_X fr1) (pW_X fr2))))
  · rw [if_neg h] at k
    have k := k I w_frr
    refine b133_0 ?_
    try simp only [w_Ug, reduceIte, Nat.reduceEqDiff, Int.reduceEq, eq_self, if_true]
    repeat' (first | apply And.intro | intro)
    all_goals (try first | omega | contradiction | exact Or.inl trivial | exact Or.inr trivial)
/-- the i-th for i below 0: there is none -/
theorem u_scan_neg {U : Int → Int → Bool} {H i : Int} (hi : i < 0) : ∀ (f : Nat) (a d n : Int), 0 ≤ n → (u_scan U H i f a d n).1 = -1
  | 0, _, _, _, _ => rfl
  | f + 1, a, d, n, h => by
    unfold u_scan
    have h1 := u_scan_neg (U := U) (H := H) hi f a (d + 1) (n + 1) (by omega)
    have h2 := u_scan_neg (U := U) (H := H) hi f a (d + 1) n h
    have h3 := u_scan_neg (U := U) (H := H) hi f (a + 1) (a + 2) n h
    split
    · split
      · rw [if_neg (by omega)]; exact h1
      · exact h2
    · split
      · exact h3
      · rfl
end
