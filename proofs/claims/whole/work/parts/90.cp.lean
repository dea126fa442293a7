section
/-! call part: the class -/
variable {xs : Nat → Int32} {xl : Nat} {I J : w_I} {b : Bool} {Q : Option Value → w_I → w_I → Bool → Prop}
variable {s : Int → Int}
theorem c107 (rf : c_rf 20 I s) (rt : c_rt I s) (wf : m_wf s)
    (k0 : 12 < a_ri s (s 0) → ∀ I', w_fr pK I I' → Q (some (w_i 0)) I' J b)
    (k : a_ri s (s 0) ≤ 12 → ∀ o best sg, r_ok (a_ri s (s 0)) o (a_S s) (a_rk s) → a_pt s o best sg → ∀ I' b', w_fr pK I I' → (0 ≤ best → I' 93 8 = best ∧ I' 93 9 = sg) → Q (some (w_i (if best < 0 then 0 else 1))) I' J b') : w_C xs xl 107 [.ref 93] I J b Q := by
  have w := wf.1
  have w0 := w.1
  have lv3 := a_lv3 (s := s) (h := s 0) (by omega)
  have lb1 := a_lv_b (s := s) (sd := 1) (h := s 0) (by omega)
  have lb2 := a_lv_b (s := s) (sd := 2) (h := s 0) (by omega)
  have hT : 0 ≤ a_lv s 1 (s 0) ∧ 0 ≤ a_lv s 2 (s 0) ∧ a_lv s 1 (s 0) + a_lv s 2 (s 0) ≤ 24 := by omega
  have ri0 := a_ri_b (s := s) (h := s 0) (by omega)
  have dw : ∀ {I1 : w_I}, c_rf 20 I1 s → ∀ h, a_S s h → 0 ≤ m_dw s h ∧ m_dw s h < 30 ∧ I1 28 (m_dw s h) = h := by
    intro I1 rf1 h hS
    have rf' := rf1
    simp only [c_rf, Nat.reduceAdd] at rf'
    obtain ⟨-, -, -, -, -, rff, rh, -⟩ := rf'
    have h1 := hS.1
    have h2 := hS.2.2
    have rh := rh h h1.1 (by omega)
    by_cases x : I1 30 h = -1
    · rw [m_dw_e (rh.1 x)] at h2
      omega
    · obtain ⟨q1, q2⟩ := rh.2 x
      rw [m_dw_f wf q1 q2 h1.1]
      have r28 := (rff _ q1.1 q1.2.1).2.2.1 q1.2.2 (by omega)
      have := q1.1
      have := q1.2.1
      exact ⟨by omega, by omega, by omega⟩
  cases b
  · refine e107f (b107_0f ?_)
    refine c21 rf rt wf (fun I1 f1 z1 => b107_7f ?_)
    have fr1 : w_fr pK I I1 := fun a k' e => by rw [f1 a (fun x => by subst x; cases e) (fun x => by subst x; cases e)]
    have rf1 := pK_rf fr1 rf
    have rt1 := pK_rt fr1 rt
    refine c108 rf1 rt1 wf (fun f x y => (z1 f x y).2) (fun hM I2 o fr2 or2 lv2 => ?_) (fun hM I2 fr2 => ?_)
    · have fr2' := w_frt fr1 (p108_K fr2)
      have rt2 := pK_rt fr2' rt
      have rf2 := pK_rf fr2' rf
      refine b107_11f ?_
      try simp only [w_Ug, reduceIte, Nat.reduceEqDiff, Int.reduceEq, eq_self, if_true]
      repeat' (first | apply And.intro | intro)
      all_goals (try first | omega | contradiction | exact Or.inl trivial | exact Or.inr trivial)
      refine f295_98 (fun I3 f3 z3 => b107_25f ?_)
      have fr3 : w_fr p98 I2 I3 := fun a k' e => by rw [f3 a (fun x => by subst x; cases e)]
      have fr3' : w_fr pK I I3 := w_frt fr2' (fun a k' e => by rw [f3 a (fun x => by subst x; cases e)])
      refine c107l w rt2 hM or2 lv2 (fun h hS => dw rf2 h hS) (k hM) (a_ri s (s 0)).toNat 0 (w_U I3 98 0 0) false _ (by omega) (w_frU fr3 rfl) (w_frU fr3' rfl) (a_I_0 (by omega) (by omega) ?_ (fun l r x1 x2 x3 x4 x5 => ?_))
      · show w_U I3 98 0 0 98 (0 * (a_lv s 2 (s 0) + 1) + 0) = 0
        rw [w_Ug, if_pos rfl, if_pos (by omega)]
      · show w_U I3 98 0 0 98 (l * (a_lv s 2 (s 0) + 1) + r) = 1073741824
        have st := a_st_lt hT ⟨x1, x2⟩ ⟨x3, x4⟩
        rw [w_Ug, if_pos rfl, if_neg (fun e => by
          have := a_st_in (w := a_lv s 2 (s 0) + 1) (l := l) (r := r) (l' := 0) (r' := 0) ⟨x3, by omega⟩ ⟨by omega, by omega⟩ (by omega)
          omega)]
        exact z3 _ (by omega) (by omega)
    · have kk := k0 hM I2 (w_frt fr1 (p108_K fr2))
      refine b107_11f ?_
      try simp only [w_Ug, reduceIte, Nat.reduceEqDiff, Int.reduceEq, eq_self, if_true]
      repeat' (first | apply And.intro | intro)
      all_goals (try first | omega | contradiction | exact Or.inl trivial | exact Or.inr trivial)
  · refine e107t (b107_0t ?_)
    refine c21 rf rt wf (fun I1 f1 z1 => b107_7t ?_)
    have fr1 : w_fr pK I I1 := fun a k' e => by rw [f1 a (fun x => by subst x; cases e) (fun x => by subst x; cases e)]
    have rf1 := pK_rf fr1 rf
    have rt1 := pK_rt fr1 rt
    refine c108 rf1 rt1 wf (fun f x y => (z1 f x y).2) (fun hM I2 o fr2 or2 lv2 => ?_) (fun hM I2 fr2 => ?_)
    · have fr2' := w_frt fr1 (p108_K fr2)
      have rt2 := pK_rt fr2' rt
      have rf2 := pK_rf fr2' rf
      refine b107_11t ?_
      try simp only [w_Ug, reduceIte, Nat.reduceEqDiff, Int.reduceEq, eq_self, if_true]
      repeat' (first | apply And.intro | intro)
      all_goals (try first | omega | contradiction | exact Or.inl trivial | exact Or.inr trivial)
      refine f295_99 (fun I3 f3 z3 => b107_25t ?_)
      have fr3 : w_fr p98 I2 I3 := fun a k' e => by rw [f3 a (fun x => by subst x; cases e)]
      have fr3' : w_fr pK I I3 := w_frt fr2' (fun a k' e => by rw [f3 a (fun x => by subst x; cases e)])
      refine c107l w rt2 hM or2 lv2 (fun h hS => dw rf2 h hS) (k hM) (a_ri s (s 0)).toNat 0 (w_U I3 99 0 0) true _ (by omega) (w_frU fr3 rfl) (w_frU fr3' rfl) (a_I_0 (by omega) (by omega) ?_ (fun l r x1 x2 x3 x4 x5 => ?_))
      · show w_U I3 99 0 0 99 (0 * (a_lv s 2 (s 0) + 1) + 0) = 0
        rw [w_Ug, if_pos rfl, if_pos (by omega)]
      · show w_U I3 99 0 0 99 (l * (a_lv s 2 (s 0) + 1) + r) = 1073741824
        have st := a_st_lt hT ⟨x1, x2⟩ ⟨x3, x4⟩
        rw [w_Ug, if_pos rfl, if_neg (fun e => by
          have := a_st_in (w := a_lv s 2 (s 0) + 1) (l := l) (r := r) (l' := 0) (r' := 0) ⟨x3, by omega⟩ ⟨by omega, by omega⟩ (by omega)
          omega)]
        exact z3 _ (by omega) (by omega)
    · have kk := k0 hM I2 (w_frt fr1 (p108_K fr2))
      refine b107_11t ?_
      try simp only [w_Ug, reduceIte, Nat.reduceEqDiff, Int.reduceEq, eq_self, if_true]
      repeat' (first | apply And.intro | intro)
      all_goals (try first | omega | contradiction | exact Or.inl trivial | exact Or.inr trivial)

def m_part (best sg a : Int) : Int := if best < 0 then -2 else if a = 0 then best else sg
theorem c142 {a : Int} (rf : c_rf 20 I s) (rt : c_rt I s) (wf : m_wf s) (ha : w_in a)
    (kN : ¬ (0 ≤ a ∧ a ≤ 1) → Q (some (w_i (-1))) I J b)
    (k0 : 0 ≤ a ∧ a ≤ 1 → 12 < a_ri s (s 0) → ∀ I', w_fr pK I I' → Q (some (w_i (-2))) I' J b)
    (k : 0 ≤ a ∧ a ≤ 1 → a_ri s (s 0) ≤ 12 → ∀ o best sg, r_ok (a_ri s (s 0)) o (a_S s) (a_rk s) → a_pt s o best sg → ∀ I' b', w_fr pK I I' → Q (some (w_i (m_part best sg a))) I' J b') : w_C xs xl 142 [.ref 0, w_i a] I J b Q := by
  refine e142 (b142_0 ?_)
  by_cases c : 0 ≤ a ∧ a ≤ 1
  · have k0 := k0 c
    have k := k c
    refine ⟨ha, fun x => by omega, fun x => ⟨fun _ => ?_, fun y => by omega⟩⟩
    refine c107 rf rt wf (fun h I' fr => ?_) (fun h o best sg h1 h2 I' b' fr h3 => ?_)
    · have kk := k0 h I' fr
      refine b142_18 ?_
      try simp only [w_Ug, reduceIte, Nat.reduceEqDiff, Int.reduceEq, eq_self, if_true]
      repeat' (first | apply And.intro | intro)
      all_goals (try first | omega | contradiction | exact Or.inl trivial | exact Or.inr trivial)
    · have kk := k h o best sg h1 h2 I' b' fr
      unfold m_part at kk
      by_cases x : best < 0
      · rw [if_pos x] at kk ⊢
        refine b142_18 ?_
        try simp only [w_Ug, reduceIte, Nat.reduceEqDiff, Int.reduceEq, eq_self, if_true]
        repeat' (first | apply And.intro | intro)
        all_goals (try first | omega | contradiction | exact Or.inl trivial | exact Or.inr trivial)
      · obtain ⟨h4, h5⟩ := h3 (by omega)
        rw [if_neg x] at kk ⊢
        refine b142_18 ?_
        try simp only [w_Ug, reduceIte, Nat.reduceEqDiff, Int.reduceEq, eq_self, h4, h5]
        repeat' (first | apply And.intro | intro)
        all_goals (try first | omega | contradiction | exact Or.inl trivial | exact Or.inr trivial)
        · rename_i c1
          rw [if_neg c1] at kk; exact kk
        · rename_i c1
          rw [if_pos c1] at kk; exact kk
  · have kk := kN c
    exact ⟨ha, fun _ => kk, fun x => ⟨fun y => absurd ⟨by omega, y⟩ c, fun _ => kk⟩⟩
end
