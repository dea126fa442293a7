section
/-! part: the class divides; call part -/
variable {xs : Nat → Int32} {xl : Nat} {I J : w_I} {b : Bool} {Q : Option Value → w_I → w_I → Bool → Prop}
variable {s : Int → Int}
theorem c107et {T1 T2 : Int} (h971 : I 97 1 = T1) (h972 : I 97 2 = T2) (hT : 0 ≤ T1 ∧ 0 ≤ T2 ∧ T1 + T2 ≤ 24)
    (ht : ∀ l r, 0 ≤ l → l ≤ T1 → 0 ≤ r → r ≤ T2 → I 99 (l * (T2 + 1) + r) = 1073741824 ∨ (0 ≤ I 99 (l * (T2 + 1) + r) ∧ I 99 (l * (T2 + 1) + r) ≤ 960000))
    (k : ∀ L, (∀ l r, 0 ≤ l → l ≤ T1 → 0 ≤ r → r ≤ T2 → L ≤ I 99 (l * (T2 + 1) + r)) → (L = 1073741824 ∨ ∃ l r, 0 ≤ l ∧ l ≤ T1 ∧ 0 ≤ r ∧ r ≤ T2 ∧ L = I 99 (l * (T2 + 1) + r)) → Q (some (w_i (if 1073741824 ≤ L then 0 else 1))) (w_U (w_U I 93 8 (L / 65536)) 93 9 (L % 4096)) J true) : w_T xs xl 107 74 [some (.ref 93), some (w_i 1073741824), some (w_i 0)] [] [] I J true Q := by
  have sz := a_st_lt hT (l := 0) (r := 0) ⟨by omega, hT.1⟩ ⟨by omega, hT.2.1⟩
  have loop : ∀ (m : Nat) (L x : Int), x + m = (T1 + 1) * (T2 + 1) → 0 ≤ x → (L = 1073741824 ∨ (0 ≤ L ∧ L ≤ 960000)) → (∀ l r, 0 ≤ l → l ≤ T1 → 0 ≤ r → r ≤ T2 → l * (T2 + 1) + r < x → L ≤ I 99 (l * (T2 + 1) + r)) → (L = 1073741824 ∨ ∃ l r, 0 ≤ l ∧ l ≤ T1 ∧ 0 ≤ r ∧ r ≤ T2 ∧ L = I 99 (l * (T2 + 1) + r)) →
      w_T xs xl 107 74 [some (.ref 93), some (w_i L), some (w_i x)] [] [] I J true Q := by
    intro m
    induction m with
    | zero =>
      intro L x a0 a1 a2 a3 a4
      have kk := k L (fun l r b c d e => a3 l r b c d e (by have := a_st_lt hT (l := l) (r := r) ⟨b, c⟩ ⟨d, e⟩; omega)) a4
      refine b107_74t ?_
      try simp only [w_Ug, reduceIte, Nat.reduceEqDiff, Int.reduceEq, eq_self, h971, h972]
      repeat' (first | apply And.intro | intro)
      all_goals (try first | omega | contradiction | exact Or.inl trivial | exact Or.inr trivial)
      · rename_i c
        rw [if_pos c] at kk; exact kk
      · rename_i c
        rw [if_neg c] at kk; exact kk
    | succ m ih =>
      intro L x a0 a1 a2 a3 a4
      have Lb : w_in L := by
        rcases a2 with z | z
        · rw [z]; decide
        · exact ⟨by omega, by omega⟩
      have e1 := Int.mul_ediv_add_emod x (T2 + 1)
      have e2 := Int.emod_nonneg x (show T2 + 1 ≠ 0 by omega)
      have e3 := Int.emod_lt_of_pos x (show 0 < T2 + 1 by omega)
      have e4 : 0 ≤ x / (T2 + 1) := Int.ediv_nonneg a1 (by omega)
      have e5 : x / (T2 + 1) < T1 + 1 := Int.ediv_lt_of_lt_mul (by omega) (by omega)
      rw [Int.mul_comm] at e1
      have hc := ht (x / (T2 + 1)) (x % (T2 + 1)) e4 (by omega) e2 (by omega)
      rw [e1] at hc
      refine b107_74t ?_
      try simp only [w_Ug, reduceIte, Nat.reduceEqDiff, Int.reduceEq, eq_self, h971, h972]
      repeat' (first | apply And.intro | intro)
      all_goals (try first | omega | contradiction | exact Or.inl trivial | exact Or.inr trivial)
      refine ih _ (x + 1) (by clear a4; omega) (by clear a4; omega) (by clear a4; omega) (fun l r b c d e f => ?_) ?_
      · clear a4 ih
        by_cases z : l * (T2 + 1) + r = x
        · rw [z]; omega
        · have := a3 l r b c d e (by omega)
          omega
      · by_cases z : L ≤ I 99 x
        · rw [Int.min_eq_left z]; exact a4
        · clear a4
          right
          refine ⟨x / (T2 + 1), x % (T2 + 1), e4, by omega, e2, by omega, ?_⟩
          rw [e1, Int.min_eq_right (by omega)]
  exact loop ((T1 + 1) * (T2 + 1)).toNat 1073741824 0 (by omega) (by omega) (Or.inl rfl) (fun l r b c d e f => by have := a_st_lt hT (l := l) (r := r) ⟨b, c⟩ ⟨d, e⟩; omega) (Or.inl rfl)
theorem c107ef {T1 T2 : Int} (h971 : I 97 1 = T1) (h972 : I 97 2 = T2) (hT : 0 ≤ T1 ∧ 0 ≤ T2 ∧ T1 + T2 ≤ 24)
    (ht : ∀ l r, 0 ≤ l → l ≤ T1 → 0 ≤ r → r ≤ T2 → I 98 (l * (T2 + 1) + r) = 1073741824 ∨ (0 ≤ I 98 (l * (T2 + 1) + r) ∧ I 98 (l * (T2 + 1) + r) ≤ 960000))
    (k : ∀ L, (∀ l r, 0 ≤ l → l ≤ T1 → 0 ≤ r → r ≤ T2 → L ≤ I 98 (l * (T2 + 1) + r)) → (L = 1073741824 ∨ ∃ l r, 0 ≤ l ∧ l ≤ T1 ∧ 0 ≤ r ∧ r ≤ T2 ∧ L = I 98 (l * (T2 + 1) + r)) → Q (some (w_i (if 1073741824 ≤ L then 0 else 1))) (w_U (w_U I 93 8 (L / 65536)) 93 9 (L % 4096)) J false) : w_T xs xl 107 74 [some (.ref 93), some (w_i 1073741824), some (w_i 0)] [] [] I J false Q := by
  have sz := a_st_lt hT (l := 0) (r := 0) ⟨by omega, hT.1⟩ ⟨by omega, hT.2.1⟩
  have loop : ∀ (m : Nat) (L x : Int), x + m = (T1 + 1) * (T2 + 1) → 0 ≤ x → (L = 1073741824 ∨ (0 ≤ L ∧ L ≤ 960000)) → (∀ l r, 0 ≤ l → l ≤ T1 → 0 ≤ r → r ≤ T2 → l * (T2 + 1) + r < x → L ≤ I 98 (l * (T2 + 1) + r)) → (L = 1073741824 ∨ ∃ l r, 0 ≤ l ∧ l ≤ T1 ∧ 0 ≤ r ∧ r ≤ T2 ∧ L = I 98 (l * (T2 + 1) + r)) →
      w_T xs xl 107 74 [some (.ref 93), some (w_i L), some (w_i x)] [] [] I J false Q := by
    intro m
    induction m with
    | zero =>
      intro L x a0 a1 a2 a3 a4
      have kk := k L (fun l r b c d e => a3 l r b c d e (by have := a_st_lt hT (l := l) (r := r) ⟨b, c⟩ ⟨d, e⟩; omega)) a4
      refine b107_74f ?_
      try simp only [w_Ug, reduceIte, Nat.reduceEqDiff, Int.reduceEq, eq_self, h971, h972]
      repeat' (first | apply And.intro | intro)
      all_goals (try first | omega | contradiction | exact Or.inl trivial | exact Or.inr trivial)
      · rename_i c
        rw [if_pos c] at kk; exact kk
      · rename_i c
        rw [if_neg c] at kk; exact kk
    | succ m ih =>
      intro L x a0 a1 a2 a3 a4
      have Lb : w_in L := by
        rcases a2 with z | z
        · rw [z]; decide
        · exact ⟨by omega, by omega⟩
      have e1 := Int.mul_ediv_add_emod x (T2 + 1)
      have e2 := Int.emod_nonneg x (show T2 + 1 ≠ 0 by omega)
      have e3 := Int.emod_lt_of_pos x (show 0 < T2 + 1 by omega)
      have e4 : 0 ≤ x / (T2 + 1) := Int.ediv_nonneg a1 (by omega)
      have e5 : x / (T2 + 1) < T1 + 1 := Int.ediv_lt_of_lt_mul (by omega) (by omega)
      rw [Int.mul_comm] at e1
      have hc := ht (x / (T2 + 1)) (x % (T2 + 1)) e4 (by omega) e2 (by omega)
      rw [e1] at hc
      refine b107_74f ?_
      try simp only [w_Ug, reduceIte, Nat.reduceEqDiff, Int.reduceEq, eq_self, h971, h972]
      repeat' (first | apply And.intro | intro)
      all_goals (try first | omega | contradiction | exact Or.inl trivial | exact Or.inr trivial)
      refine ih _ (x + 1) (by clear a4; omega) (by clear a4; omega) (by clear a4; omega) (fun l r b c d e f => ?_) ?_
      · clear a4 ih
        by_cases z : l * (T2 + 1) + r = x
        · rw [z]; omega
        · have := a3 l r b c d e (by omega)
          omega
      · by_cases z : L ≤ I 98 x
        · rw [Int.min_eq_left z]; exact a4
        · clear a4
          right
          refine ⟨x / (T2 + 1), x % (T2 + 1), e4, by omega, e2, by omega, ?_⟩
          rw [e1, Int.min_eq_right (by omega)]
  exact loop ((T1 + 1) * (T2 + 1)).toNat 1073741824 0 (by omega) (by omega) (Or.inl rfl) (fun l r b c d e f => by have := a_st_lt hT (l := l) (r := r) ⟨b, c⟩ ⟨d, e⟩; omega) (Or.inl rfl)
def p98 (a : Nat) (_ : Int) : Bool := a == 98 || a == 99
def a_tb (b : Bool) : Nat := bif b then 99 else 98
theorem c107l {I1 : w_I} {o : Int → Int} (w : m_w0 s) (rt1 : c_rt I1 s) (hM : a_ri s (s 0) ≤ 12) (ho : c_or I1 s (a_ri s (s 0)) o (a_S s)) (hl : c_lvl I1 s (s 0)) (dw : ∀ h, a_S s h → 0 ≤ m_dw s h ∧ m_dw s h < 30 ∧ I1 28 (m_dw s h) = h)
    (k : ∀ o best sg, r_ok (a_ri s (s 0)) o (a_S s) (a_rk s) → a_pt s o best sg → ∀ I' b', w_fr pK I I' → (0 ≤ best → I' 93 8 = best ∧ I' 93 9 = sg) → Q (some (w_i (if best < 0 then 0 else 1))) I' J b') :
    ∀ (m q : Nat) (I2 : w_I) (b : Bool) (u2 : Option Value), (q : Int) + m = a_ri s (s 0) → w_fr p98 I1 I2 → w_fr pK I I2 → a_I (a_lv s 1 (s 0)) (a_lv s 2 (s 0)) (a_sv s o 1) (a_sv s o 2) (a_ix s o) (a_ri s (s 0)).toNat m q (fun l r => I2 (a_tb b) (l * (a_lv s 2 (s 0) + 1) + r)) →
    w_T xs xl 107 34 [some (.ref 93), some (w_i q), u2] [] [] I2 J b Q := by
  have w0 := w.1
  have lv3 := a_lv3 (s := s) (h := s 0) (by omega)
  have lb1 := a_lv_b (s := s) (sd := 1) (h := s 0) (by omega)
  have lb2 := a_lv_b (s := s) (sd := 2) (h := s 0) (by omega)
  have hT : 0 ≤ a_lv s 1 (s 0) ∧ 0 ≤ a_lv s 2 (s 0) ∧ a_lv s 1 (s 0) + a_lv s 2 (s 0) ≤ 24 := by omega
  have ri0 := a_ri_b (s := s) (h := s 0) (by omega)
  intro m
  induction m with
  | zero =>
    intro q I2 b u2 h0 h1 h2 h3
    have e935 : I2 93 5 = a_ri s (s 0) := by rw [h1 93 _ rfl]; exact ho.1
    have e971 : I2 97 1 = a_lv s 1 (s 0) := by rw [h1 97 _ rfl]; exact hl.1 1 (by omega) (by omega)
    have e972 : I2 97 2 = a_lv s 2 (s 0) := by rw [h1 97 _ rfl]; exact hl.1 2 (by omega) (by omega)
    cases b
    · -- f
      have I3e : ∀ l r, 0 ≤ l → l ≤ a_lv s 1 (s 0) → 0 ≤ r → r ≤ a_lv s 2 (s 0) → I2 98 (l * (a_lv s 2 (s 0) + 1) + r) = 1073741824 ∨ (0 ≤ I2 98 (l * (a_lv s 2 (s 0) + 1) + r) ∧ I2 98 (l * (a_lv s 2 (s 0) + 1) + r) ≤ 960000) := fun l r x1 x2 x3 x4 => by
        have c : (80000 : Int) * q ≤ 960000 := by omega
        rcases h3.2.2 l r x1 x2 x3 x4 with z | z
        · exact Or.inl z
        · exact Or.inr ⟨z.1, Int.le_trans z.2 c⟩
      have e : q = (a_ri s (s 0)).toNat := by omega
      subst e
      refine b107_34f ?_
      try simp only [w_Ug, reduceIte, Nat.reduceEqDiff, Int.reduceEq, eq_self, e935]
      repeat' (first | apply And.intro | intro)
      all_goals (try first | omega | contradiction | exact Or.inl trivial | exact Or.inr trivial)
      refine c107ef e971 e972 hT I3e (fun L x1 x2 => ?_)
      have sx := a_ix_ok (M := (a_ri s (s 0)).toNat) (by omega) ho.2.1
      have fin := a_fin (by omega) sx.1 sx.2.1 sx.2.2 h3 x1 x2
      have fr' : w_fr pK I (w_U (w_U I2 93 8 (L / 65536)) 93 9 (L % 4096)) := w_frU (w_frU h2 rfl) rfl
      rcases fin with ⟨f1, f2⟩ | ⟨f1, f2⟩
      · rw [if_pos (by omega)]
        have kk := k o (-2) 0 ho.2.1 f2 _ false fr' (fun x => by omega)
        rw [if_pos (by decide)] at kk
        exact kk
      · rw [if_neg (by omega)]
        have kk := k o (L / 65536) (L % 4096) ho.2.1 f2 _ false fr' (fun x => by simp only [w_Ug, reduceIte, Int.reduceEq]; exact ⟨trivial, trivial⟩)
        rw [if_neg (by omega)] at kk
        exact kk
    · -- t
      have I3e : ∀ l r, 0 ≤ l → l ≤ a_lv s 1 (s 0) → 0 ≤ r → r ≤ a_lv s 2 (s 0) → I2 99 (l * (a_lv s 2 (s 0) + 1) + r) = 1073741824 ∨ (0 ≤ I2 99 (l * (a_lv s 2 (s 0) + 1) + r) ∧ I2 99 (l * (a_lv s 2 (s 0) + 1) + r) ≤ 960000) := fun l r x1 x2 x3 x4 => by
        have c : (80000 : Int) * q ≤ 960000 := by omega
        rcases h3.2.2 l r x1 x2 x3 x4 with z | z
        · exact Or.inl z
        · exact Or.inr ⟨z.1, Int.le_trans z.2 c⟩
      have e : q = (a_ri s (s 0)).toNat := by omega
      subst e
      refine b107_34t ?_
      try simp only [w_Ug, reduceIte, Nat.reduceEqDiff, Int.reduceEq, eq_self, e935]
      repeat' (first | apply And.intro | intro)
      all_goals (try first | omega | contradiction | exact Or.inl trivial | exact Or.inr trivial)
      refine c107et e971 e972 hT I3e (fun L x1 x2 => ?_)
      have sx := a_ix_ok (M := (a_ri s (s 0)).toNat) (by omega) ho.2.1
      have fin := a_fin (by omega) sx.1 sx.2.1 sx.2.2 h3 x1 x2
      have fr' : w_fr pK I (w_U (w_U I2 93 8 (L / 65536)) 93 9 (L % 4096)) := w_frU (w_frU h2 rfl) rfl
      rcases fin with ⟨f1, f2⟩ | ⟨f1, f2⟩
      · rw [if_pos (by omega)]
        have kk := k o (-2) 0 ho.2.1 f2 _ true fr' (fun x => by omega)
        rw [if_pos (by decide)] at kk
        exact kk
      · rw [if_neg (by omega)]
        have kk := k o (L / 65536) (L % 4096) ho.2.1 f2 _ true fr' (fun x => by simp only [w_Ug, reduceIte, Int.reduceEq]; exact ⟨trivial, trivial⟩)
        rw [if_neg (by omega)] at kk
        exact kk
  | succ m ih =>
    intro q I2 b u2 h0 h1 h2 h3
    have e935 : I2 93 5 = a_ri s (s 0) := by rw [h1 93 _ rfl]; exact ho.1
    have e971 : I2 97 1 = a_lv s 1 (s 0) := by rw [h1 97 _ rfl]; exact hl.1 1 (by omega) (by omega)
    have e972 : I2 97 2 = a_lv s 2 (s 0) := by rw [h1 97 _ rfl]; exact hl.1 2 (by omega) (by omega)
    cases b
    · -- f
      have I3e : ∀ l r, 0 ≤ l → l ≤ a_lv s 1 (s 0) → 0 ≤ r → r ≤ a_lv s 2 (s 0) → I2 98 (l * (a_lv s 2 (s 0) + 1) + r) = 1073741824 ∨ (0 ≤ I2 98 (l * (a_lv s 2 (s 0) + 1) + r) ∧ I2 98 (l * (a_lv s 2 (s 0) + 1) + r) ≤ 960000) := fun l r x1 x2 x3 x4 => by
        have c : (80000 : Int) * q ≤ 960000 := by omega
        rcases h3.2.2 l r x1 x2 x3 x4 with z | z
        · exact Or.inl z
        · exact Or.inr ⟨z.1, Int.le_trans z.2 c⟩
      have qm : (q : Int) < a_ri s (s 0) := by omega
      have inS := ho.2.1.2.1 q (by omega) qm
      have e94 : I2 94 q = m_dw s (o q) := by rw [h1 94 _ rfl]; exact ho.2.2 q (by omega) qm
      obtain ⟨d1, d2, d3⟩ := dw (o q) inS
      have e28 : I2 28 (m_dw s (o q)) = o q := by rw [h1 28 _ rfl]; exact d3
      have lv := hl.2 (o q) inS.1.1 inS.1.2
      have w1 := w.2.1 (o q) inS.1.1 inS.1.2
      have nz := inS.2.1
      have e3 : I2 3 (o q) = s (20 + o q) := by rw [h1 3 _ rfl]; exact (rt1.2.2.2.2.2 (o q) inS.1.1 (by have := inS.1.2; omega)).1
      have e95 : I2 95 (o q) = a_lv s (s (20 + o q)) (o q) := by rw [h1 95 _ rfl]; exact lv.1
      have e96 : I2 96 (o q) = a_ri s (o q) := by rw [h1 96 _ rfl]; exact lv.2
      have ltl := a_lv_lt (s := s) inS.1.1 inS.1.2 (rfl : s (20 + o q) = s (20 + o q))
      have lvb := a_lv_b (s := s) (sd := s (20 + o q)) (h := o q) inS.1.1
      have ltr := a_ri_lt inS.1.1 inS.1.2 inS.2
      have rib := a_ri_b (s := s) (h := o q) inS.1.1
      refine b107_34f ?_
      try simp only [w_Ug, reduceIte, Nat.reduceEqDiff, Int.reduceEq, eq_self, e935, e94, e28]
      repeat' (first | apply And.intro | intro)
      all_goals (try first | omega | contradiction | exact Or.inl trivial | exact Or.inr trivial)
      refine c110f e971 e972 hT (by have := inS.1; omega) e3 e95 e96 ?_ (by omega) I3e (fun I3 f3 j3 => b107_63t ?_)
      · rcases (show s (20 + o q) = 1 ∨ s (20 + o q) = 2 by omega) with z | z
        · left; rw [z] at ltl lvb ⊢; exact ⟨rfl, lvb.1, ltl⟩
        · right; rw [z] at ltl lvb ⊢; exact ⟨rfl, lvb.1, ltl⟩
      · have sx := a_ix_ok (M := (a_ri s (s 0)).toNat) (by omega) ho.2.1
        have v1 : (if s (20 + o q) = 1 then a_lv s (s (20 + o q)) (o q) else -1) = a_sv s o 1 q := by
          unfold a_sv
          by_cases z : s (20 + o q) = 1
          · rw [if_pos z, if_pos z, z]
          · rw [if_neg z, if_neg z]
        have v2 : (if s (20 + o q) = 2 then a_lv s (s (20 + o q)) (o q) else -1) = a_sv s o 2 q := by
          unfold a_sv
          by_cases z : s (20 + o q) = 2
          · rw [if_pos z, if_pos z, z]
          · rw [if_neg z, if_neg z]
        rw [v1, v2] at j3
        rw [show (q : Int) + 1 = ((q + 1 : Nat) : Int) by omega]
        refine ih (q + 1) I3 (!false) _ (by omega) (w_frt h1 (fun a k' e => by rw [f3 a (fun x => by subst x; cases e)])) (w_frt h2 (fun a k' e => by rw [f3 a (fun x => by subst x; cases e)])) ?_
        have q2 := a_sv_b (sd := 1) inS
        have q3 := a_sv_b (sd := 2) inS
        have q4 := sx.1 q (by omega)
        refine a_I_s (by omega) (by omega) q2.2 q3.2 ⟨q4.1, by omega⟩ (fun j x1 x2 x3 => ?_) h3 (fun l r x1 x2 x3 x4 x5 kd l' r' p x6 => j3.1 l r kd l' r' p x1 x2 x3 x4 x5 trivial x6) (fun l' r' x1 x2 x3 x4 => j3.2 l' r' x1 x2 x3 x4)
        have := sx.2.2 j.toNat q (by omega) (by omega) (by rw [show ((j.toNat : Nat) : Int) = j by omega]; exact x3)
        omega
    · -- t
      have I3e : ∀ l r, 0 ≤ l → l ≤ a_lv s 1 (s 0) → 0 ≤ r → r ≤ a_lv s 2 (s 0) → I2 99 (l * (a_lv s 2 (s 0) + 1) + r) = 1073741824 ∨ (0 ≤ I2 99 (l * (a_lv s 2 (s 0) + 1) + r) ∧ I2 99 (l * (a_lv s 2 (s 0) + 1) + r) ≤ 960000) := fun l r x1 x2 x3 x4 => by
        have c : (80000 : Int) * q ≤ 960000 := by omega
        rcases h3.2.2 l r x1 x2 x3 x4 with z | z
        · exact Or.inl z
        · exact Or.inr ⟨z.1, Int.le_trans z.2 c⟩
      have qm : (q : Int) < a_ri s (s 0) := by omega
      have inS := ho.2.1.2.1 q (by omega) qm
      have e94 : I2 94 q = m_dw s (o q) := by rw [h1 94 _ rfl]; exact ho.2.2 q (by omega) qm
      obtain ⟨d1, d2, d3⟩ := dw (o q) inS
      have e28 : I2 28 (m_dw s (o q)) = o q := by rw [h1 28 _ rfl]; exact d3
      have lv := hl.2 (o q) inS.1.1 inS.1.2
      have w1 := w.2.1 (o q) inS.1.1 inS.1.2
      have nz := inS.2.1
      have e3 : I2 3 (o q) = s (20 + o q) := by rw [h1 3 _ rfl]; exact (rt1.2.2.2.2.2 (o q) inS.1.1 (by have := inS.1.2; omega)).1
      have e95 : I2 95 (o q) = a_lv s (s (20 + o q)) (o q) := by rw [h1 95 _ rfl]; exact lv.1
      have e96 : I2 96 (o q) = a_ri s (o q) := by rw [h1 96 _ rfl]; exact lv.2
      have ltl := a_lv_lt (s := s) inS.1.1 inS.1.2 (rfl : s (20 + o q) = s (20 + o q))
      have lvb := a_lv_b (s := s) (sd := s (20 + o q)) (h := o q) inS.1.1
      have ltr := a_ri_lt inS.1.1 inS.1.2 inS.2
      have rib := a_ri_b (s := s) (h := o q) inS.1.1
      refine b107_34t ?_
      try simp only [w_Ug, reduceIte, Nat.reduceEqDiff, Int.reduceEq, eq_self, e935, e94, e28]
      repeat' (first | apply And.intro | intro)
      all_goals (try first | omega | contradiction | exact Or.inl trivial | exact Or.inr trivial)
      refine c110t e971 e972 hT (by have := inS.1; omega) e3 e95 e96 ?_ (by omega) I3e (fun I3 f3 j3 => b107_63f ?_)
      · rcases (show s (20 + o q) = 1 ∨ s (20 + o q) = 2 by omega) with z | z
        · left; rw [z] at ltl lvb ⊢; exact ⟨rfl, lvb.1, ltl⟩
        · right; rw [z] at ltl lvb ⊢; exact ⟨rfl, lvb.1, ltl⟩
      · have sx := a_ix_ok (M := (a_ri s (s 0)).toNat) (by omega) ho.2.1
        have v1 : (if s (20 + o q) = 1 then a_lv s (s (20 + o q)) (o q) else -1) = a_sv s o 1 q := by
          unfold a_sv
          by_cases z : s (20 + o q) = 1
          · rw [if_pos z, if_pos z, z]
          · rw [if_neg z, if_neg z]
        have v2 : (if s (20 + o q) = 2 then a_lv s (s (20 + o q)) (o q) else -1) = a_sv s o 2 q := by
          unfold a_sv
          by_cases z : s (20 + o q) = 2
          · rw [if_pos z, if_pos z, z]
          · rw [if_neg z, if_neg z]
        rw [v1, v2] at j3
        rw [show (q : Int) + 1 = ((q + 1 : Nat) : Int) by omega]
        refine ih (q + 1) I3 (!true) _ (by omega) (w_frt h1 (fun a k' e => by rw [f3 a (fun x => by subst x; cases e)])) (w_frt h2 (fun a k' e => by rw [f3 a (fun x => by subst x; cases e)])) ?_
        have q2 := a_sv_b (sd := 1) inS
        have q3 := a_sv_b (sd := 2) inS
        have q4 := sx.1 q (by omega)
        refine a_I_s (by omega) (by omega) q2.2 q3.2 ⟨q4.1, by omega⟩ (fun j x1 x2 x3 => ?_) h3 (fun l r x1 x2 x3 x4 x5 kd l' r' p x6 => j3.1 l r kd l' r' p x1 x2 x3 x4 x5 trivial x6) (fun l' r' x1 x2 x3 x4 => j3.2 l' r' x1 x2 x3 x4)
        have := sx.2.2 j.toNat q (by omega) (by omega) (by rw [show ((j.toNat : Nat) : Int) = j by omega]; exact x3)
        omega
end
