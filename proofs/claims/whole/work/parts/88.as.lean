section
/-! part: the class assigns one member -/
theorem w_shl1 {j : Int} (h : 0 ≤ j ∧ j ≤ 12) : w_shl 1 j = pw2 j := by
  have : j = 0 ∨ j = 1 ∨ j = 2 ∨ j = 3 ∨ j = 4 ∨ j = 5 ∨ j = 6 ∨ j = 7 ∨ j = 8 ∨ j = 9 ∨ j = 10 ∨ j = 11 ∨ j = 12 := by omega
  rcases this with h | h | h | h | h | h | h | h | h | h | h | h | h <;> subst h <;> decide
/-- states as places in the table -/
theorem a_st_lt {T1 T2 l r : Int} (hT : 0 ≤ T1 ∧ 0 ≤ T2 ∧ T1 + T2 ≤ 24) (hl : 0 ≤ l ∧ l ≤ T1) (hr : 0 ≤ r ∧ r ≤ T2) : 0 ≤ l * (T2 + 1) + r ∧ l * (T2 + 1) + r < (T1 + 1) * (T2 + 1) ∧ (T1 + 1) * (T2 + 1) ≤ 169 := by
  have d : ∀ a b : Fin 25, a.1 + b.1 ≤ 24 → (a.1 + 1) * (b.1 + 1) ≤ 169 := by decide
  have d := d ⟨T1.toNat, by omega⟩ ⟨T2.toNat, by omega⟩ (by show T1.toNat + T2.toNat ≤ 24; omega)
  have e : (((T1.toNat + 1) * (T2.toNat + 1) : Nat) : Int) = (T1 + 1) * (T2 + 1) := by
    rw [Int.natCast_mul]
    rw [show ((T1.toNat + 1 : Nat) : Int) = T1 + 1 by omega, show ((T2.toNat + 1 : Nat) : Int) = T2 + 1 by omega]
  have d' : (((T1.toNat + 1) * (T2.toNat + 1) : Nat) : Int) ≤ 169 := Int.ofNat_le.mpr d
  rw [e] at d'
  have m1 : l * (T2 + 1) ≤ T1 * (T2 + 1) := Int.mul_le_mul_of_nonneg_right hl.2 (by omega)
  have m2 : 0 ≤ l * (T2 + 1) := Int.mul_nonneg hl.1 (by omega)
  rw [Int.add_mul, Int.one_mul] at d' ⊢
  omega
theorem a_st_in {w l r l' r' : Int} (hr : 0 ≤ r ∧ r < w) (hr' : 0 ≤ r' ∧ r' < w) (e : l * w + r = l' * w + r') : l = l' ∧ r = r' := by
  have a : (r + l * w) / w = l := by
    rw [Int.add_mul_ediv_right _ _ (by omega), Int.ediv_eq_zero_of_lt hr.1 hr.2, Int.zero_add]
  have b : (r' + l' * w) / w = l' := by
    rw [Int.add_mul_ediv_right _ _ (by omega), Int.ediv_eq_zero_of_lt hr'.1 hr'.2, Int.zero_add]
  have : l = l' := by rw [← a, ← b, Int.add_comm r, Int.add_comm r', e]
  subst this
  exact ⟨rfl, by omega⟩
theorem a_tr_u {T1 T2 L1 L2 B kd l r l' r' p l2 r2 p2 : Int} (h : a_tr T1 T2 L1 L2 B kd l r l' r' p) (h2 : a_tr T1 T2 L1 L2 B kd l r l2 r2 p2) : l' = l2 ∧ r' = r2 ∧ p = p2 := by
  rcases h with h | h | h | h <;> rcases h2 with g | g | g | g <;> omega
theorem a_tr_k {T1 T2 L1 L2 B kd l r l' r' p : Int} (h : a_tr T1 T2 L1 L2 B kd l r l' r' p) : (kd = 1 ∧ l < T1) ∨ (kd = 2 ∧ r < T2) ∨ (kd = 3 ∧ l ≤ L1) ∨ (kd = 4 ∧ r ≤ L2) := by
  rcases h with h | h | h | h <;> omega
/-- the new table while it grows: the ways in G are in it -/
def a_J (T1 T2 L1 L2 B : Int) (t : Int → Int → Int) (G : Int → Int → Int → Prop) (nt : Int → Int → Int) : Prop :=
  (∀ l r kd l' r' p, 0 ≤ l → l ≤ T1 → 0 ≤ r → r ≤ T2 → t l r < 1073741824 → G l r kd → a_tr T1 T2 L1 L2 B kd l r l' r' p → nt l' r' ≤ t l r + p) ∧
  (∀ l' r', 0 ≤ l' → l' ≤ T1 → 0 ≤ r' → r' ≤ T2 → nt l' r' = 1073741824 ∨ ∃ l r kd p, 0 ≤ l ∧ l ≤ T1 ∧ 0 ≤ r ∧ r ≤ T2 ∧ t l r < 1073741824 ∧ a_tr T1 T2 L1 L2 B kd l r l' r' p ∧ nt l' r' = t l r + p)
def a_G (L R m l r kd : Int) : Prop := l < L ∨ (l = L ∧ (r < R ∨ (r = R ∧ kd ≤ m)))
theorem a_J_w {T1 T2 L1 L2 B : Int} {t nt : Int → Int → Int} {G G' : Int → Int → Int → Prop} (h : a_J T1 T2 L1 L2 B t G nt) (hG : ∀ l r kd, 0 ≤ l → l ≤ T1 → 0 ≤ r → r ≤ T2 → t l r < 1073741824 → (kd = 1 ∧ l < T1) ∨ (kd = 2 ∧ r < T2) ∨ (kd = 3 ∧ l ≤ L1) ∨ (kd = 4 ∧ r ≤ L2) → G' l r kd → G l r kd) : a_J T1 T2 L1 L2 B t G' nt :=
  ⟨fun l r kd l' r' p a b c d e f g => h.1 l r kd l' r' p a b c d e (hG l r kd a b c d e (a_tr_k g) f) g, h.2⟩
theorem a_J_p {T1 T2 L1 L2 B : Int} {t nt nt' : Int → Int → Int} {L R m l' r' p : Int} (h : a_J T1 T2 L1 L2 B t (a_G L R m) nt) (hL : 0 ≤ L ∧ L ≤ T1) (hR : 0 ≤ R ∧ R ≤ T2) (ht : t L R < 1073741824) (tr : a_tr T1 T2 L1 L2 B (m + 1) L R l' r' p) (rg : ∀ kd l r l' r' p, 0 ≤ l → l ≤ T1 → 0 ≤ r → r ≤ T2 → a_tr T1 T2 L1 L2 B kd l r l' r' p → (0 ≤ l' ∧ l' ≤ T1) ∧ (0 ≤ r' ∧ r' ≤ T2))
    (hn : ∀ x y, 0 ≤ x → x ≤ T1 → 0 ≤ y → y ≤ T2 → nt' x y = if x = l' ∧ y = r' then min (nt l' r') (t L R + p) else nt x y) : a_J T1 T2 L1 L2 B t (a_G L R (m + 1)) nt' := by
  have r0 := rg _ _ _ _ _ _ hL.1 hL.2 hR.1 hR.2 tr
  refine ⟨fun l r kd l2 r2 p2 a b c d e f g => ?_, fun x y a b c d => ?_⟩
  · have r2' := rg _ _ _ _ _ _ a b c d g
    rw [hn l2 r2 r2'.1.1 r2'.1.2 r2'.2.1 r2'.2.2]
    by_cases hg : a_G L R m l r kd
    · have o := h.1 l r kd l2 r2 p2 a b c d e hg g
      split
      · rename_i z
        rw [z.1, z.2] at o
        omega
      · exact o
    · have x : l = L ∧ r = R ∧ kd = m + 1 := by
        unfold a_G at hg f
        omega
      obtain ⟨rfl, rfl, rfl⟩ := x
      obtain ⟨rfl, rfl, rfl⟩ := a_tr_u tr g
      rw [if_pos ⟨rfl, rfl⟩]
      omega
  · rw [hn x y a b c d]
    by_cases z : x = l' ∧ y = r'
    · rw [if_pos z]
      obtain ⟨rfl, rfl⟩ := z
      by_cases z2 : nt x y ≤ t L R + p
      · rw [show min (nt x y) (t L R + p) = nt x y by omega]
        exact h.2 x y a b c d
      · right
        exact ⟨L, R, m + 1, p, hL.1, hL.2, hR.1, hR.2, ht, tr, by omega⟩
    · rw [if_neg z]
      exact h.2 x y a b c d
section
variable {xs : Nat → Int32} {xl : Nat} {I J : w_I} {b : Bool} {Q : Option Value → w_I → w_I → Bool → Prop}
theorem c110t {T1 T2 h sd lv rk : Int} (h971 : I 97 1 = T1) (h972 : I 97 2 = T2) (hT : 0 ≤ T1 ∧ 0 ≤ T2 ∧ T1 + T2 ≤ 24) (hh : 0 ≤ h ∧ h < 24) (h3 : I 3 h = sd) (h95 : I 95 h = lv) (h96 : I 96 h = rk) (hs : (sd = 1 ∧ 0 ≤ lv ∧ lv < T1) ∨ (sd = 2 ∧ 0 ≤ lv ∧ lv < T2)) (hrk : 0 ≤ rk ∧ rk < 12)
    (ht : ∀ l r, 0 ≤ l → l ≤ T1 → 0 ≤ r → r ≤ T2 → I 99 (l * (T2 + 1) + r) = 1073741824 ∨ (0 ≤ I 99 (l * (T2 + 1) + r) ∧ I 99 (l * (T2 + 1) + r) ≤ 960000))
    (k : ∀ I', (∀ a, a ≠ 98 → I' a = I a) → a_J T1 T2 (if sd = 1 then lv else -1) (if sd = 2 then lv else -1) (4096 + pw2 rk) (fun l r => I 99 (l * (T2 + 1) + r)) (fun _ _ _ => True) (fun l r => I' 98 (l * (T2 + 1) + r)) → Q none I' J false) : w_C xs xl 110 [.ref 93, w_i h] I J true Q := by
  have pb := pw2_le (j := rk) (by omega)
  have pp := pw2_pos rk
  have shl := w_shl1 (j := rk) (by omega)
  generalize hL1 : (if sd = 1 then lv else -1) = L1 at k
  generalize hL2 : (if sd = 2 then lv else -1) = L2 at k
  have hL : -1 ≤ L1 ∧ L1 < T1 ∧ -1 ≤ L2 ∧ L2 < T2 ∧ (sd = 1 → L1 = lv ∧ L2 = -1) ∧ (sd = 2 → L2 = lv ∧ L1 = -1) := by
    rcases hs with hs | hs
    · rw [if_pos hs.1] at hL1
      rw [if_neg (by omega)] at hL2
      omega
    · rw [if_neg (by omega)] at hL1
      rw [if_pos hs.1] at hL2
      omega
  clear hL1 hL2
  have rg : ∀ kd l r l' r' p, 0 ≤ l → l ≤ T1 → 0 ≤ r → r ≤ T2 → a_tr T1 T2 L1 L2 (4096 + pw2 rk) kd l r l' r' p → (0 ≤ l' ∧ l' ≤ T1) ∧ (0 ≤ r' ∧ r' ≤ T2) := fun kd l r l' r' p a b c d e => by
    have := a_tr_b e ⟨a, b⟩ ⟨c, d⟩ hL.2.1 hL.2.2.2.1 (by omega)
    exact ⟨this.1, this.2.1⟩
  refine e110t (b110_0t ?_)
  rw [h972, h96, shl]
  refine ⟨hh, f295_98 (fun I1 f1 z1 => b110_31t ?_)⟩
  have cell : ∀ {I2 : w_I}, (∀ a, a ≠ 98 → I2 a = I a) → I2 97 1 = T1 ∧ I2 97 2 = T2 ∧ I2 3 h = sd ∧ I2 95 h = lv ∧ I2 99 = I 99 := fun f => ⟨by rw [f 97 (by decide)]; exact h971, by rw [f 97 (by decide)]; exact h972, by rw [f 3 (by decide)]; exact h3, by rw [f 95 (by decide)]; exact h95, f 99 (by decide)⟩
  -- a way put in
  have put : ∀ {I2 : w_I} {L R m l' r' p : Int} {Q' : Option Value → w_I → w_I → Bool → Prop}, (∀ a, a ≠ 98 → I2 a = I a) → (0 ≤ L ∧ L ≤ T1) → (0 ≤ R ∧ R ≤ T2) → I 99 (L * (T2 + 1) + R) < 1073741824 → a_J T1 T2 L1 L2 (4096 + pw2 rk) (fun l r => I 99 (l * (T2 + 1) + r)) (a_G L R m) (fun l r => I2 98 (l * (T2 + 1) + r)) → a_tr T1 T2 L1 L2 (4096 + pw2 rk) (m + 1) L R l' r' p →
      (∀ I3, (∀ a, a ≠ 98 → I3 a = I a) → a_J T1 T2 L1 L2 (4096 + pw2 rk) (fun l r => I 99 (l * (T2 + 1) + r)) (a_G L R (m + 1)) (fun l r => I3 98 (l * (T2 + 1) + r)) → Q' none I3 J true) → w_C xs xl 111 [.ref 93, w_i (l' * (T2 + 1) + r'), w_i (I 99 (L * (T2 + 1) + R) + p)] I2 J true Q' := by
    intro I2 L R m l' r' p Q' f hLL hRR hlt hJ tr kk
    have tb := a_tr_b tr hLL hRR hL.2.1 hL.2.2.2.1 (by omega)
    have st := a_st_lt hT tb.1 tb.2.1
    have hc := ht L R hLL.1 hLL.2 hRR.1 hRR.2
    have hin : w_in (I2 98 (l' * (T2 + 1) + r')) := by
      rcases hJ.2 l' r' tb.1.1 tb.1.2 tb.2.1.1 tb.2.1.2 with x | ⟨l, r, kd, q, a, b, c, d, e, g, i⟩
      · have x' : I2 98 (l' * (T2 + 1) + r') = 1073741824 := x
        rw [x']; decide
      · have i' : I2 98 (l' * (T2 + 1) + r') = I 99 (l * (T2 + 1) + r) + q := i
        rw [i']
        have := ht l r a b c d
        have := a_tr_b g ⟨a, b⟩ ⟨c, d⟩ hL.2.1 hL.2.2.2.1 (by omega)
        have e' : I 99 (l * (T2 + 1) + r) < 1073741824 := e
        show -2147483648 ≤ I 99 (l * (T2 + 1) + r) + q ∧ I 99 (l * (T2 + 1) + r) + q < 2147483648
        omega
    refine e111t (b111_0t ⟨by omega, hin, by omega, ?_⟩)
    refine kk _ (fun a ha => by rw [w_Ua ha]; exact f a ha) (a_J_p hJ hLL hRR hlt tr rg (fun x y a b c d => ?_))
    rw [w_Ug, if_pos rfl]
    by_cases z : x = l' ∧ y = r'
    · rw [if_pos z, z.1, z.2, if_pos rfl]
    · rw [if_neg z, if_neg (fun e => z (a_st_in ⟨c, by omega⟩ ⟨tb.2.1.1, by omega⟩ e))]
  have outer : ∀ (m : Nat) (L : Int) (u5 u6 : Option Value) (I2 : w_I), L + m = T1 + 1 → 0 ≤ L → (∀ a, a ≠ 98 → I2 a = I a) → a_J T1 T2 L1 L2 (4096 + pw2 rk) (fun l r => I 99 (l * (T2 + 1) + r)) (a_G L 0 0) (fun l r => I2 98 (l * (T2 + 1) + r)) →
      w_T xs xl 110 34 [some (.ref 93), some (w_i h), some (w_i (T2 + 1)), some (w_i (4096 + pw2 rk)), some (w_i L), u5, u6] [] [] I2 J true Q := by
    intro m
    induction m with
    | zero =>
      intro L u5 u6 I2 a0 a1 a2 a3
      obtain ⟨d1, d2, d3, d4, d5⟩ := cell a2
      have kk : Q none I2 J (!true) := k I2 a2 (a_J_w a3 (fun l r kd x1 x2 x3 x4 _ _ _ => Or.inl (by omega)))
      refine b110_34t ?_
      try simp only [w_Ug, reduceIte, Nat.reduceEqDiff, Int.reduceEq, eq_self, d1]
      repeat' (first | apply And.intro | intro)
      all_goals (try first | omega | contradiction | exact Or.inl trivial | exact Or.inr trivial)
      exact b110_241 kk
    | succ m ih =>
      intro L u5 u6 I2 a0 a1 a2 a3
      obtain ⟨d1, d2, d3, d4, d5⟩ := cell a2
      refine b110_34t ?_
      try simp only [w_Ug, reduceIte, Nat.reduceEqDiff, Int.reduceEq, eq_self, d1]
      repeat' (first | apply And.intro | intro)
      all_goals (try first | omega | contradiction | exact Or.inl trivial | exact Or.inr trivial)
      have inner : ∀ (j : Nat) (R : Int) (u6 : Option Value) (I3 : w_I), R + j = T2 + 1 → 0 ≤ R → (∀ a, a ≠ 98 → I3 a = I a) → a_J T1 T2 L1 L2 (4096 + pw2 rk) (fun l r => I 99 (l * (T2 + 1) + r)) (a_G L R 0) (fun l r => I3 98 (l * (T2 + 1) + r)) →
          w_T xs xl 110 48 [some (.ref 93), some (w_i h), some (w_i (T2 + 1)), some (w_i (4096 + pw2 rk)), some (w_i L), some (w_i R), u6] [] [] I3 J true Q := by
        intro j
        induction j with
        | zero =>
          intro R u6 I3 b0 b1 b2 b3
          refine b110_48t ?_
          try simp only [w_Ug, reduceIte, Nat.reduceEqDiff, Int.reduceEq, eq_self, d1]
          repeat' (first | apply And.intro | intro)
          all_goals (try first | omega | contradiction | exact Or.inl trivial | exact Or.inr trivial)
          refine ih (L + 1) _ _ I3 (by omega) (by omega) b2 (a_J_w b3 (fun l r kd x1 x2 x3 x4 _ _ x5 => ?_))
          unfold a_G at x5 ⊢
          omega
        | succ j ihj =>
          intro R u6 I3 b0 b1 b2 b3
          have st := a_st_lt hT (l := L) (r := R) (by omega) (by omega)
          have hc := ht L R a1 (by omega) b1 (by omega)
          -- all ways of this state are in
          have nxt : ∀ (mm : Int) (u6 : Option Value) (I4 : w_I), (∀ a, a ≠ 98 → I4 a = I a) → a_J T1 T2 L1 L2 (4096 + pw2 rk) (fun l r => I 99 (l * (T2 + 1) + r)) (a_G L R mm) (fun l r => I4 98 (l * (T2 + 1) + r)) → (I 99 (L * (T2 + 1) + R) < 1073741824 → ∀ kd, mm < kd → (kd = 1 ∧ L < T1) ∨ (kd = 2 ∧ R < T2) ∨ (kd = 3 ∧ L ≤ L1) ∨ (kd = 4 ∧ R ≤ L2) → False) →
              w_T xs xl 110 48 [some (.ref 93), some (w_i h), some (w_i (T2 + 1)), some (w_i (4096 + pw2 rk)), some (w_i L), some (w_i (R + 1)), u6] [] [] I4 J true Q := by
            intro mm u6 I4 f4 j4 no
            refine ihj (R + 1) u6 I4 (by omega) (by omega) f4 (a_J_w j4 (fun l r kd x1 x2 x3 x4 x6 x7 x5 => ?_))
            by_cases e : l = L ∧ r = R
            · have x6' : I 99 (l * (T2 + 1) + r) < 1073741824 := x6
              rw [e.1, e.2] at x6' x7
              by_cases e2 : mm < kd
              · exact (no x6' kd e2 x7).elim
              · unfold a_G
                omega
            · unfold a_G at x5 ⊢
              omega
          have sk : ∀ {mm m2 : Int} {I4 : w_I}, a_J T1 T2 L1 L2 (4096 + pw2 rk) (fun l r => I 99 (l * (T2 + 1) + r)) (a_G L R mm) (fun l r => I4 98 (l * (T2 + 1) + r)) → (∀ kd, mm < kd → kd ≤ m2 → (kd = 1 ∧ L < T1) ∨ (kd = 2 ∧ R < T2) ∨ (kd = 3 ∧ L ≤ L1) ∨ (kd = 4 ∧ R ≤ L2) → False) → a_J T1 T2 L1 L2 (4096 + pw2 rk) (fun l r => I 99 (l * (T2 + 1) + r)) (a_G L R m2) (fun l r => I4 98 (l * (T2 + 1) + r)) := by
            intro mm m2 I4 j4 no
            refine a_J_w j4 (fun l r kd x1 x2 x3 x4 x6 x7 x5 => ?_)
            by_cases e : l = L ∧ r = R
            · rw [e.1, e.2] at x7
              unfold a_G at x5 ⊢
              by_cases e2 : mm < kd ∧ kd ≤ m2
              · exact (no kd e2.1 e2.2 x7).elim
              · omega
            · unfold a_G at x5 ⊢
              omega
          -- the fourth
          have g4 : ∀ {mm : Int} (I4 : w_I), (∀ a, a ≠ 98 → I4 a = I a) → I 99 (L * (T2 + 1) + R) < 1073741824 → a_J T1 T2 L1 L2 (4096 + pw2 rk) (fun l r => I 99 (l * (T2 + 1) + r)) (a_G L R mm) (fun l r => I4 98 (l * (T2 + 1) + r)) → (∀ kd, mm < kd → kd ≤ 3 → (kd = 1 ∧ L < T1) ∨ (kd = 2 ∧ R < T2) ∨ (kd = 3 ∧ L ≤ L1) ∨ (kd = 4 ∧ R ≤ L2) → False) → R ≤ L2 →
              w_C xs xl 111 [.ref 93, w_i (L * (T2 + 1) + L2 + 1), w_i (I 99 (L * (T2 + 1) + R))] I4 J true (fun v Ic Jc bc => w_T xs xl 110 229 [some (.ref 93), some (w_i h), some (w_i (T2 + 1)), some (w_i (4096 + pw2 rk)), some (w_i L), some (w_i R), some (w_i (I 99 (L * (T2 + 1) + R)))] [] (w_pv v []) Ic Jc bc Q) := by
            intro mm I4 f4 lt4 j4 no ok
            have pt := put (m := 3) (l' := L) (r' := L2 + 1) (p := 0) (Q' := fun v Ic Jc bc => w_T xs xl 110 229 [some (.ref 93), some (w_i h), some (w_i (T2 + 1)), some (w_i (4096 + pw2 rk)), some (w_i L), some (w_i R), some (w_i (I 99 (L * (T2 + 1) + R)))] [] (w_pv v []) Ic Jc bc Q) f4 (by omega) (by omega) lt4 (sk j4 no) (Or.inr (Or.inr (Or.inr ⟨by omega, ok, rfl, rfl, rfl⟩))) (fun I5 f5 j5 => b110_229t (nxt 4 _ I5 f5 j5 (fun _ kd x y => by omega)))
            rw [Int.add_zero, show L * (T2 + 1) + (L2 + 1) = L * (T2 + 1) + L2 + 1 by omega] at pt
            exact pt
          have t183 : ∀ (I4 : w_I), (∀ a, a ≠ 98 → I4 a = I a) → I 99 (L * (T2 + 1) + R) < 1073741824 → a_J T1 T2 L1 L2 (4096 + pw2 rk) (fun l r => I 99 (l * (T2 + 1) + r)) (a_G L R 3) (fun l r => I4 98 (l * (T2 + 1) + r)) →
              w_T xs xl 110 183 [some (.ref 93), some (w_i h), some (w_i (T2 + 1)), some (w_i (4096 + pw2 rk)), some (w_i L), some (w_i R), some (w_i (I 99 (L * (T2 + 1) + R)))] [] [] I4 J true Q := by
            intro I4 f4 lt4 j4
            obtain ⟨d1, d2, d3, d4, d5⟩ := cell f4
            have nx := nxt 3 (some (w_i (I 99 (L * (T2 + 1) + R)))) I4 f4 j4
            have gg := g4 I4 f4 lt4 j4 (fun kd x y => by omega)
            rcases hs with hs | hs
            · refine b110_183t ?_
              try simp only [w_Ug, reduceIte, Nat.reduceEqDiff, Int.reduceEq, eq_self, d3, d4]
              repeat' (first | apply And.intro | intro)
              all_goals (try first | omega | contradiction | exact Or.inl trivial | exact Or.inr trivial)
              exact nx (fun _ kd x y => by omega)
            · rw [show L2 = lv by omega] at gg
              refine b110_183t ?_
              try simp only [w_Ug, reduceIte, Nat.reduceEqDiff, Int.reduceEq, eq_self, d3, d4]
              repeat' (first | apply And.intro | intro)
              all_goals (try first | omega | contradiction | exact Or.inl trivial | exact Or.inr trivial)
              · exact nx (fun _ kd x y => by omega)
              · exact gg (by omega)
          have g3 : ∀ {mm : Int} (I4 : w_I), (∀ a, a ≠ 98 → I4 a = I a) → I 99 (L * (T2 + 1) + R) < 1073741824 → a_J T1 T2 L1 L2 (4096 + pw2 rk) (fun l r => I 99 (l * (T2 + 1) + r)) (a_G L R mm) (fun l r => I4 98 (l * (T2 + 1) + r)) → (∀ kd, mm < kd → kd ≤ 2 → (kd = 1 ∧ L < T1) ∨ (kd = 2 ∧ R < T2) ∨ (kd = 3 ∧ L ≤ L1) ∨ (kd = 4 ∧ R ≤ L2) → False) → L ≤ L1 →
              w_C xs xl 111 [.ref 93, w_i ((L1 + 1) * (T2 + 1) + R), w_i (I 99 (L * (T2 + 1) + R) + (4096 + pw2 rk))] I4 J true (fun v Ic Jc bc => w_T xs xl 110 183 [some (.ref 93), some (w_i h), some (w_i (T2 + 1)), some (w_i (4096 + pw2 rk)), some (w_i L), some (w_i R), some (w_i (I 99 (L * (T2 + 1) + R)))] [] (w_pv v []) Ic Jc bc Q) := by
            intro mm I4 f4 lt4 j4 no ok
            exact put (m := 2) (l' := L1 + 1) (r' := R) (p := 4096 + pw2 rk) f4 (by omega) (by omega) lt4 (sk j4 no) (Or.inr (Or.inr (Or.inl ⟨by omega, ok, rfl, rfl, rfl⟩))) (fun I5 f5 j5 => t183 I5 f5 lt4 j5)
          have t135 : ∀ (I4 : w_I), (∀ a, a ≠ 98 → I4 a = I a) → I 99 (L * (T2 + 1) + R) < 1073741824 → a_J T1 T2 L1 L2 (4096 + pw2 rk) (fun l r => I 99 (l * (T2 + 1) + r)) (a_G L R 2) (fun l r => I4 98 (l * (T2 + 1) + r)) →
              w_T xs xl 110 135 [some (.ref 93), some (w_i h), some (w_i (T2 + 1)), some (w_i (4096 + pw2 rk)), some (w_i L), some (w_i R), some (w_i (I 99 (L * (T2 + 1) + R)))] [] [] I4 J true Q := by
            intro I4 f4 lt4 j4
            obtain ⟨d1, d2, d3, d4, d5⟩ := cell f4
            have nx := nxt 2 (some (w_i (I 99 (L * (T2 + 1) + R)))) I4 f4 j4
            have gg := g4 I4 f4 lt4 j4
            have gh := g3 I4 f4 lt4 j4 (fun kd x y => by omega)
            rcases hs with hs | hs
            · rw [show L1 = lv by omega] at gh
              refine b110_135t ?_
              try simp only [w_Ug, reduceIte, Nat.reduceEqDiff, Int.reduceEq, eq_self, d3, d4]
              repeat' (first | apply And.intro | intro)
              all_goals (try first | omega | contradiction | exact Or.inl trivial | exact Or.inr trivial)
              · exact nx (fun _ kd x y => by omega)
              · exact gh (by omega)
            · rw [show L2 = lv by omega] at gg
              refine b110_135t ?_
              try simp only [w_Ug, reduceIte, Nat.reduceEqDiff, Int.reduceEq, eq_self, d3, d4]
              repeat' (first | apply And.intro | intro)
              all_goals (try first | omega | contradiction | exact Or.inl trivial | exact Or.inr trivial)
              · exact nx (fun _ kd x y => by omega)
              · exact gg (fun kd x y => by omega) (by omega)
          have g2 : ∀ {mm : Int} (I4 : w_I), (∀ a, a ≠ 98 → I4 a = I a) → I 99 (L * (T2 + 1) + R) < 1073741824 → a_J T1 T2 L1 L2 (4096 + pw2 rk) (fun l r => I 99 (l * (T2 + 1) + r)) (a_G L R mm) (fun l r => I4 98 (l * (T2 + 1) + r)) → (∀ kd, mm < kd → kd ≤ 1 → (kd = 1 ∧ L < T1) ∨ (kd = 2 ∧ R < T2) ∨ (kd = 3 ∧ L ≤ L1) ∨ (kd = 4 ∧ R ≤ L2) → False) → R < T2 →
              w_C xs xl 111 [.ref 93, w_i (L * (T2 + 1) + R + 1), w_i (I 99 (L * (T2 + 1) + R) + 65536)] I4 J true (fun v Ic Jc bc => w_T xs xl 110 135 [some (.ref 93), some (w_i h), some (w_i (T2 + 1)), some (w_i (4096 + pw2 rk)), some (w_i L), some (w_i R), some (w_i (I 99 (L * (T2 + 1) + R)))] [] (w_pv v []) Ic Jc bc Q) := by
            intro mm I4 f4 lt4 j4 no ok
            have pt := put (m := 1) (l' := L) (r' := R + 1) (p := 65536) (Q' := fun v Ic Jc bc => w_T xs xl 110 135 [some (.ref 93), some (w_i h), some (w_i (T2 + 1)), some (w_i (4096 + pw2 rk)), some (w_i L), some (w_i R), some (w_i (I 99 (L * (T2 + 1) + R)))] [] (w_pv v []) Ic Jc bc Q) f4 (by omega) (by omega) lt4 (sk j4 no) (Or.inr (Or.inl ⟨by omega, ok, rfl, rfl, rfl⟩)) (fun I5 f5 j5 => t135 I5 f5 lt4 j5)
            rw [show L * (T2 + 1) + (R + 1) = L * (T2 + 1) + R + 1 by omega] at pt
            exact pt
          have t106 : ∀ (I4 : w_I), (∀ a, a ≠ 98 → I4 a = I a) → I 99 (L * (T2 + 1) + R) < 1073741824 → a_J T1 T2 L1 L2 (4096 + pw2 rk) (fun l r => I 99 (l * (T2 + 1) + r)) (a_G L R 1) (fun l r => I4 98 (l * (T2 + 1) + r)) →
              w_T xs xl 110 106 [some (.ref 93), some (w_i h), some (w_i (T2 + 1)), some (w_i (4096 + pw2 rk)), some (w_i L), some (w_i R), some (w_i (I 99 (L * (T2 + 1) + R)))] [] [] I4 J true Q := by
            intro I4 f4 lt4 j4
            obtain ⟨d1, d2, d3, d4, d5⟩ := cell f4
            have nx := nxt 1 (some (w_i (I 99 (L * (T2 + 1) + R)))) I4 f4 j4
            have g4 := g4 I4 f4 lt4 j4
            have g3 := g3 I4 f4 lt4 j4
            have g2 := g2 I4 f4 lt4 j4 (fun kd x y => by omega)
            rcases hs with hs | hs
            · rw [show L1 = lv by omega] at g3
              refine b110_106t ?_
              try simp only [w_Ug, reduceIte, Nat.reduceEqDiff, Int.reduceEq, eq_self, d2, d3, d4]
              repeat' (first | apply And.intro | intro)
              all_goals (try first | omega | contradiction | exact Or.inl trivial | exact Or.inr trivial)
              · exact nx (fun _ kd x y => by omega)
              · exact g3 (fun kd x y => by omega) (by omega)
              · exact g2 (by omega)
            · rw [show L2 = lv by omega] at g4
              refine b110_106t ?_
              try simp only [w_Ug, reduceIte, Nat.reduceEqDiff, Int.reduceEq, eq_self, d2, d3, d4]
              repeat' (first | apply And.intro | intro)
              all_goals (try first | omega | contradiction | exact Or.inl trivial | exact Or.inr trivial)
              · exact nx (fun _ kd x y => by omega)
              · exact g2 (by omega)
          have g1 : ∀ (I4 : w_I), (∀ a, a ≠ 98 → I4 a = I a) → I 99 (L * (T2 + 1) + R) < 1073741824 → a_J T1 T2 L1 L2 (4096 + pw2 rk) (fun l r => I 99 (l * (T2 + 1) + r)) (a_G L R 0) (fun l r => I4 98 (l * (T2 + 1) + r)) → L < T1 →
              w_C xs xl 111 [.ref 93, w_i ((L + 1) * (T2 + 1) + R), w_i (I 99 (L * (T2 + 1) + R) + (4096 + pw2 rk) + 65536)] I4 J true (fun v Ic Jc bc => w_T xs xl 110 106 [some (.ref 93), some (w_i h), some (w_i (T2 + 1)), some (w_i (4096 + pw2 rk)), some (w_i L), some (w_i R), some (w_i (I 99 (L * (T2 + 1) + R)))] [] (w_pv v []) Ic Jc bc Q) := by
            intro I4 f4 lt4 j4 ok
            have pt := put (m := 0) (l' := L + 1) (r' := R) (p := 4096 + pw2 rk + 65536) (Q' := fun v Ic Jc bc => w_T xs xl 110 106 [some (.ref 93), some (w_i h), some (w_i (T2 + 1)), some (w_i (4096 + pw2 rk)), some (w_i L), some (w_i R), some (w_i (I 99 (L * (T2 + 1) + R)))] [] (w_pv v []) Ic Jc bc Q) f4 (by omega) (by omega) lt4 j4 (Or.inl ⟨by omega, ok, rfl, rfl, rfl⟩) (fun I5 f5 j5 => t106 I5 f5 lt4 j5)
            rw [← Int.add_assoc] at pt
            exact pt
          obtain ⟨d1, d2, d3, d4, d5⟩ := cell b2
          have nx := fun u => nxt 0 u I3 b2 b3
          have g4 := fun x => g4 I3 b2 x b3
          have g3 := fun x => g3 I3 b2 x b3
          have g2 := fun x => g2 I3 b2 x b3
          have g1 := fun x => g1 I3 b2 x b3
          generalize hso : I 99 (L * (T2 + 1) + R) = so at nx g4 g3 g2 g1 hc
          have d6 : I3 99 (L * (T2 + 1) + R) = so := by rw [d5]; exact hso
          rcases hs with hs | hs
          · rw [show L1 = lv by omega] at g3
            refine b110_48t ?_
            try simp only [w_Ug, reduceIte, Nat.reduceEqDiff, Int.reduceEq, eq_self, d1, d2, d3, d4, d6]
            repeat' (first | apply And.intro | intro)
            all_goals (try first | omega | contradiction | exact Or.inl trivial | exact Or.inr trivial)
            · exact nx _ (fun _ kd x y => by omega)
            · exact nx _ (fun _ kd x y => by omega)
            · exact g2 (by omega) (fun kd x y => by omega) (by omega)
            · exact g1 (by omega) (by omega)
          · rw [show L2 = lv by omega] at g4
            refine b110_48t ?_
            try simp only [w_Ug, reduceIte, Nat.reduceEqDiff, Int.reduceEq, eq_self, d1, d2, d3, d4, d6]
            repeat' (first | apply And.intro | intro)
            all_goals (try first | omega | contradiction | exact Or.inl trivial | exact Or.inr trivial)
            · exact nx _ (fun _ kd x y => by omega)
            · exact nx _ (fun _ kd x y => by omega)
            · exact g2 (by omega) (fun kd x y => by omega) (by omega)
            · exact g1 (by omega) (by omega)
      exact inner (T2 + 1).toNat 0 _ I2 (by omega) (by omega) a2 a3
  refine outer (T1 + 1).toNat 0 _ _ I1 (by omega) (by omega) f1 ⟨fun l r kd l' r' p x1 x2 x3 x4 x5 x6 x7 => ?_, fun l' r' x1 x2 x3 x4 => Or.inl ?_⟩
  · unfold a_G at x6
    have := a_tr_k x7
    omega
  · have st := a_st_lt hT (l := l') (r := r') ⟨x1, x2⟩ ⟨x3, x4⟩
    exact z1 _ (by omega) (by omega)
theorem c110f {T1 T2 h sd lv rk : Int} (h971 : I 97 1 = T1) (h972 : I 97 2 = T2) (hT : 0 ≤ T1 ∧ 0 ≤ T2 ∧ T1 + T2 ≤ 24) (hh : 0 ≤ h ∧ h < 24) (h3 : I 3 h = sd) (h95 : I 95 h = lv) (h96 : I 96 h = rk) (hs : (sd = 1 ∧ 0 ≤ lv ∧ lv < T1) ∨ (sd = 2 ∧ 0 ≤ lv ∧ lv < T2)) (hrk : 0 ≤ rk ∧ rk < 12)
    (ht : ∀ l r, 0 ≤ l → l ≤ T1 → 0 ≤ r → r ≤ T2 → I 98 (l * (T2 + 1) + r) = 1073741824 ∨ (0 ≤ I 98 (l * (T2 + 1) + r) ∧ I 98 (l * (T2 + 1) + r) ≤ 960000))
    (k : ∀ I', (∀ a, a ≠ 99 → I' a = I a) → a_J T1 T2 (if sd = 1 then lv else -1) (if sd = 2 then lv else -1) (4096 + pw2 rk) (fun l r => I 98 (l * (T2 + 1) + r)) (fun _ _ _ => True) (fun l r => I' 99 (l * (T2 + 1) + r)) → Q none I' J true) : w_C xs xl 110 [.ref 93, w_i h] I J false Q := by
  have pb := pw2_le (j := rk) (by omega)
  have pp := pw2_pos rk
  have shl := w_shl1 (j := rk) (by omega)
  generalize hL1 : (if sd = 1 then lv else -1) = L1 at k
  generalize hL2 : (if sd = 2 then lv else -1) = L2 at k
  have hL : -1 ≤ L1 ∧ L1 < T1 ∧ -1 ≤ L2 ∧ L2 < T2 ∧ (sd = 1 → L1 = lv ∧ L2 = -1) ∧ (sd = 2 → L2 = lv ∧ L1 = -1) := by
    rcases hs with hs | hs
    · rw [if_pos hs.1] at hL1
      rw [if_neg (by omega)] at hL2
      omega
    · rw [if_neg (by omega)] at hL1
      rw [if_pos hs.1] at hL2
      omega
  clear hL1 hL2
  have rg : ∀ kd l r l' r' p, 0 ≤ l → l ≤ T1 → 0 ≤ r → r ≤ T2 → a_tr T1 T2 L1 L2 (4096 + pw2 rk) kd l r l' r' p → (0 ≤ l' ∧ l' ≤ T1) ∧ (0 ≤ r' ∧ r' ≤ T2) := fun kd l r l' r' p a b c d e => by
    have := a_tr_b e ⟨a, b⟩ ⟨c, d⟩ hL.2.1 hL.2.2.2.1 (by omega)
    exact ⟨this.1, this.2.1⟩
  refine e110f (b110_0f ?_)
  rw [h972, h96, shl]
  refine ⟨hh, f295_99 (fun I1 f1 z1 => b110_31f ?_)⟩
  have cell : ∀ {I2 : w_I}, (∀ a, a ≠ 99 → I2 a = I a) → I2 97 1 = T1 ∧ I2 97 2 = T2 ∧ I2 3 h = sd ∧ I2 95 h = lv ∧ I2 98 = I 98 := fun f => ⟨by rw [f 97 (by decide)]; exact h971, by rw [f 97 (by decide)]; exact h972, by rw [f 3 (by decide)]; exact h3, by rw [f 95 (by decide)]; exact h95, f 98 (by decide)⟩
  -- a way put in
  have put : ∀ {I2 : w_I} {L R m l' r' p : Int} {Q' : Option Value → w_I → w_I → Bool → Prop}, (∀ a, a ≠ 99 → I2 a = I a) → (0 ≤ L ∧ L ≤ T1) → (0 ≤ R ∧ R ≤ T2) → I 98 (L * (T2 + 1) + R) < 1073741824 → a_J T1 T2 L1 L2 (4096 + pw2 rk) (fun l r => I 98 (l * (T2 + 1) + r)) (a_G L R m) (fun l r => I2 99 (l * (T2 + 1) + r)) → a_tr T1 T2 L1 L2 (4096 + pw2 rk) (m + 1) L R l' r' p →
      (∀ I3, (∀ a, a ≠ 99 → I3 a = I a) → a_J T1 T2 L1 L2 (4096 + pw2 rk) (fun l r => I 98 (l * (T2 + 1) + r)) (a_G L R (m + 1)) (fun l r => I3 99 (l * (T2 + 1) + r)) → Q' none I3 J false) → w_C xs xl 111 [.ref 93, w_i (l' * (T2 + 1) + r'), w_i (I 98 (L * (T2 + 1) + R) + p)] I2 J false Q' := by
    intro I2 L R m l' r' p Q' f hLL hRR hlt hJ tr kk
    have tb := a_tr_b tr hLL hRR hL.2.1 hL.2.2.2.1 (by omega)
    have st := a_st_lt hT tb.1 tb.2.1
    have hc := ht L R hLL.1 hLL.2 hRR.1 hRR.2
    have hin : w_in (I2 99 (l' * (T2 + 1) + r')) := by
      rcases hJ.2 l' r' tb.1.1 tb.1.2 tb.2.1.1 tb.2.1.2 with x | ⟨l, r, kd, q, a, b, c, d, e, g, i⟩
      · have x' : I2 99 (l' * (T2 + 1) + r') = 1073741824 := x
        rw [x']; decide
      · have i' : I2 99 (l' * (T2 + 1) + r') = I 98 (l * (T2 + 1) + r) + q := i
        rw [i']
        have := ht l r a b c d
        have := a_tr_b g ⟨a, b⟩ ⟨c, d⟩ hL.2.1 hL.2.2.2.1 (by omega)
        have e' : I 98 (l * (T2 + 1) + r) < 1073741824 := e
        show -2147483648 ≤ I 98 (l * (T2 + 1) + r) + q ∧ I 98 (l * (T2 + 1) + r) + q < 2147483648
        omega
    refine e111f (b111_0f ⟨by omega, hin, by omega, ?_⟩)
    refine kk _ (fun a ha => by rw [w_Ua ha]; exact f a ha) (a_J_p hJ hLL hRR hlt tr rg (fun x y a b c d => ?_))
    rw [w_Ug, if_pos rfl]
    by_cases z : x = l' ∧ y = r'
    · rw [if_pos z, z.1, z.2, if_pos rfl]
    · rw [if_neg z, if_neg (fun e => z (a_st_in ⟨c, by omega⟩ ⟨tb.2.1.1, by omega⟩ e))]
  have outer : ∀ (m : Nat) (L : Int) (u5 u6 : Option Value) (I2 : w_I), L + m = T1 + 1 → 0 ≤ L → (∀ a, a ≠ 99 → I2 a = I a) → a_J T1 T2 L1 L2 (4096 + pw2 rk) (fun l r => I 98 (l * (T2 + 1) + r)) (a_G L 0 0) (fun l r => I2 99 (l * (T2 + 1) + r)) →
      w_T xs xl 110 34 [some (.ref 93), some (w_i h), some (w_i (T2 + 1)), some (w_i (4096 + pw2 rk)), some (w_i L), u5, u6] [] [] I2 J false Q := by
    intro m
    induction m with
    | zero =>
      intro L u5 u6 I2 a0 a1 a2 a3
      obtain ⟨d1, d2, d3, d4, d5⟩ := cell a2
      have kk : Q none I2 J (!false) := k I2 a2 (a_J_w a3 (fun l r kd x1 x2 x3 x4 _ _ _ => Or.inl (by omega)))
      refine b110_34f ?_
      try simp only [w_Ug, reduceIte, Nat.reduceEqDiff, Int.reduceEq, eq_self, d1]
      repeat' (first | apply And.intro | intro)
      all_goals (try first | omega | contradiction | exact Or.inl trivial | exact Or.inr trivial)
      exact b110_241 kk
    | succ m ih =>
      intro L u5 u6 I2 a0 a1 a2 a3
      obtain ⟨d1, d2, d3, d4, d5⟩ := cell a2
      refine b110_34f ?_
      try simp only [w_Ug, reduceIte, Nat.reduceEqDiff, Int.reduceEq, eq_self, d1]
      repeat' (first | apply And.intro | intro)
      all_goals (try first | omega | contradiction | exact Or.inl trivial | exact Or.inr trivial)
      have inner : ∀ (j : Nat) (R : Int) (u6 : Option Value) (I3 : w_I), R + j = T2 + 1 → 0 ≤ R → (∀ a, a ≠ 99 → I3 a = I a) → a_J T1 T2 L1 L2 (4096 + pw2 rk) (fun l r => I 98 (l * (T2 + 1) + r)) (a_G L R 0) (fun l r => I3 99 (l * (T2 + 1) + r)) →
          w_T xs xl 110 48 [some (.ref 93), some (w_i h), some (w_i (T2 + 1)), some (w_i (4096 + pw2 rk)), some (w_i L), some (w_i R), u6] [] [] I3 J false Q := by
        intro j
        induction j with
        | zero =>
          intro R u6 I3 b0 b1 b2 b3
          refine b110_48f ?_
          try simp only [w_Ug, reduceIte, Nat.reduceEqDiff, Int.reduceEq, eq_self, d1]
          repeat' (first | apply And.intro | intro)
          all_goals (try first | omega | contradiction | exact Or.inl trivial | exact Or.inr trivial)
          refine ih (L + 1) _ _ I3 (by omega) (by omega) b2 (a_J_w b3 (fun l r kd x1 x2 x3 x4 _ _ x5 => ?_))
          unfold a_G at x5 ⊢
          omega
        | succ j ihj =>
          intro R u6 I3 b0 b1 b2 b3
          have st := a_st_lt hT (l := L) (r := R) (by omega) (by omega)
          have hc := ht L R a1 (by omega) b1 (by omega)
          -- all ways of this state are in
          have nxt : ∀ (mm : Int) (u6 : Option Value) (I4 : w_I), (∀ a, a ≠ 99 → I4 a = I a) → a_J T1 T2 L1 L2 (4096 + pw2 rk) (fun l r => I 98 (l * (T2 + 1) + r)) (a_G L R mm) (fun l r => I4 99 (l * (T2 + 1) + r)) → (I 98 (L * (T2 + 1) + R) < 1073741824 → ∀ kd, mm < kd → (kd = 1 ∧ L < T1) ∨ (kd = 2 ∧ R < T2) ∨ (kd = 3 ∧ L ≤ L1) ∨ (kd = 4 ∧ R ≤ L2) → False) →
              w_T xs xl 110 48 [some (.ref 93), some (w_i h), some (w_i (T2 + 1)), some (w_i (4096 + pw2 rk)), some (w_i L), some (w_i (R + 1)), u6] [] [] I4 J false Q := by
            intro mm u6 I4 f4 j4 no
            refine ihj (R + 1) u6 I4 (by omega) (by omega) f4 (a_J_w j4 (fun l r kd x1 x2 x3 x4 x6 x7 x5 => ?_))
            by_cases e : l = L ∧ r = R
            · have x6' : I 98 (l * (T2 + 1) + r) < 1073741824 := x6
              rw [e.1, e.2] at x6' x7
              by_cases e2 : mm < kd
              · exact (no x6' kd e2 x7).elim
              · unfold a_G
                omega
            · unfold a_G at x5 ⊢
              omega
          have sk : ∀ {mm m2 : Int} {I4 : w_I}, a_J T1 T2 L1 L2 (4096 + pw2 rk) (fun l r => I 98 (l * (T2 + 1) + r)) (a_G L R mm) (fun l r => I4 99 (l * (T2 + 1) + r)) → (∀ kd, mm < kd → kd ≤ m2 → (kd = 1 ∧ L < T1) ∨ (kd = 2 ∧ R < T2) ∨ (kd = 3 ∧ L ≤ L1) ∨ (kd = 4 ∧ R ≤ L2) → False) → a_J T1 T2 L1 L2 (4096 + pw2 rk) (fun l r => I 98 (l * (T2 + 1) + r)) (a_G L R m2) (fun l r => I4 99 (l * (T2 + 1) + r)) := by
            intro mm m2 I4 j4 no
            refine a_J_w j4 (fun l r kd x1 x2 x3 x4 x6 x7 x5 => ?_)
            by_cases e : l = L ∧ r = R
            · rw [e.1, e.2] at x7
              unfold a_G at x5 ⊢
              by_cases e2 : mm < kd ∧ kd ≤ m2
              · exact (no kd e2.1 e2.2 x7).elim
              · omega
            · unfold a_G at x5 ⊢
              omega
          -- the fourth
          have g4 : ∀ {mm : Int} (I4 : w_I), (∀ a, a ≠ 99 → I4 a = I a) → I 98 (L * (T2 + 1) + R) < 1073741824 → a_J T1 T2 L1 L2 (4096 + pw2 rk) (fun l r => I 98 (l * (T2 + 1) + r)) (a_G L R mm) (fun l r => I4 99 (l * (T2 + 1) + r)) → (∀ kd, mm < kd → kd ≤ 3 → (kd = 1 ∧ L < T1) ∨ (kd = 2 ∧ R < T2) ∨ (kd = 3 ∧ L ≤ L1) ∨ (kd = 4 ∧ R ≤ L2) → False) → R ≤ L2 →
              w_C xs xl 111 [.ref 93, w_i (L * (T2 + 1) + L2 + 1), w_i (I 98 (L * (T2 + 1) + R))] I4 J false (fun v Ic Jc bc => w_T xs xl 110 229 [some (.ref 93), some (w_i h), some (w_i (T2 + 1)), some (w_i (4096 + pw2 rk)), some (w_i L), some (w_i R), some (w_i (I 98 (L * (T2 + 1) + R)))] [] (w_pv v []) Ic Jc bc Q) := by
            intro mm I4 f4 lt4 j4 no ok
            have pt := put (m := 3) (l' := L) (r' := L2 + 1) (p := 0) (Q' := fun v Ic Jc bc => w_T xs xl 110 229 [some (.ref 93), some (w_i h), some (w_i (T2 + 1)), some (w_i (4096 + pw2 rk)), some (w_i L), some (w_i R), some (w_i (I 98 (L * (T2 + 1) + R)))] [] (w_pv v []) Ic Jc bc Q) f4 (by omega) (by omega) lt4 (sk j4 no) (Or.inr (Or.inr (Or.inr ⟨by omega, ok, rfl, rfl, rfl⟩))) (fun I5 f5 j5 => b110_229f (nxt 4 _ I5 f5 j5 (fun _ kd x y => by omega)))
            rw [Int.add_zero, show L * (T2 + 1) + (L2 + 1) = L * (T2 + 1) + L2 + 1 by omega] at pt
            exact pt
          have t183 : ∀ (I4 : w_I), (∀ a, a ≠ 99 → I4 a = I a) → I 98 (L * (T2 + 1) + R) < 1073741824 → a_J T1 T2 L1 L2 (4096 + pw2 rk) (fun l r => I 98 (l * (T2 + 1) + r)) (a_G L R 3) (fun l r => I4 99 (l * (T2 + 1) + r)) →
              w_T xs xl 110 183 [some (.ref 93), some (w_i h), some (w_i (T2 + 1)), some (w_i (4096 + pw2 rk)), some (w_i L), some (w_i R), some (w_i (I 98 (L * (T2 + 1) + R)))] [] [] I4 J false Q := by
            intro I4 f4 lt4 j4
            obtain ⟨d1, d2, d3, d4, d5⟩ := cell f4
            have nx := nxt 3 (some (w_i (I 98 (L * (T2 + 1) + R)))) I4 f4 j4
            have gg := g4 I4 f4 lt4 j4 (fun kd x y => by omega)
            rcases hs with hs | hs
            · refine b110_183f ?_
              try simp only [w_Ug, reduceIte, Nat.reduceEqDiff, Int.reduceEq, eq_self, d3, d4]
              repeat' (first | apply And.intro | intro)
              all_goals (try first | omega | contradiction | exact Or.inl trivial | exact Or.inr trivial)
              exact nx (fun _ kd x y => by omega)
            · rw [show L2 = lv by omega] at gg
              refine b110_183f ?_
              try simp only [w_Ug, reduceIte, Nat.reduceEqDiff, Int.reduceEq, eq_self, d3, d4]
              repeat' (first | apply And.intro | intro)
              all_goals (try first | omega | contradiction | exact Or.inl trivial | exact Or.inr trivial)
              · exact nx (fun _ kd x y => by omega)
              · exact gg (by omega)
          have g3 : ∀ {mm : Int} (I4 : w_I), (∀ a, a ≠ 99 → I4 a = I a) → I 98 (L * (T2 + 1) + R) < 1073741824 → a_J T1 T2 L1 L2 (4096 + pw2 rk) (fun l r => I 98 (l * (T2 + 1) + r)) (a_G L R mm) (fun l r => I4 99 (l * (T2 + 1) + r)) → (∀ kd, mm < kd → kd ≤ 2 → (kd = 1 ∧ L < T1) ∨ (kd = 2 ∧ R < T2) ∨ (kd = 3 ∧ L ≤ L1) ∨ (kd = 4 ∧ R ≤ L2) → False) → L ≤ L1 →
              w_C xs xl 111 [.ref 93, w_i ((L1 + 1) * (T2 + 1) + R), w_i (I 98 (L * (T2 + 1) + R) + (4096 + pw2 rk))] I4 J false (fun v Ic Jc bc => w_T xs xl 110 183 [some (.ref 93), some (w_i h), some (w_i (T2 + 1)), some (w_i (4096 + pw2 rk)), some (w_i L), some (w_i R), some (w_i (I 98 (L * (T2 + 1) + R)))] [] (w_pv v []) Ic Jc bc Q) := by
            intro mm I4 f4 lt4 j4 no ok
            exact put (m := 2) (l' := L1 + 1) (r' := R) (p := 4096 + pw2 rk) f4 (by omega) (by omega) lt4 (sk j4 no) (Or.inr (Or.inr (Or.inl ⟨by omega, ok, rfl, rfl, rfl⟩))) (fun I5 f5 j5 => t183 I5 f5 lt4 j5)
          have t135 : ∀ (I4 : w_I), (∀ a, a ≠ 99 → I4 a = I a) → I 98 (L * (T2 + 1) + R) < 1073741824 → a_J T1 T2 L1 L2 (4096 + pw2 rk) (fun l r => I 98 (l * (T2 + 1) + r)) (a_G L R 2) (fun l r => I4 99 (l * (T2 + 1) + r)) →
              w_T xs xl 110 135 [some (.ref 93), some (w_i h), some (w_i (T2 + 1)), some (w_i (4096 + pw2 rk)), some (w_i L), some (w_i R), some (w_i (I 98 (L * (T2 + 1) + R)))] [] [] I4 J false Q := by
            intro I4 f4 lt4 j4
            obtain ⟨d1, d2, d3, d4, d5⟩ := cell f4
            have nx := nxt 2 (some (w_i (I 98 (L * (T2 + 1) + R)))) I4 f4 j4
            have gg := g4 I4 f4 lt4 j4
            have gh := g3 I4 f4 lt4 j4 (fun kd x y => by omega)
            rcases hs with hs | hs
            · rw [show L1 = lv by omega] at gh
              refine b110_135f ?_
              try simp only [w_Ug, reduceIte, Nat.reduceEqDiff, Int.reduceEq, eq_self, d3, d4]
              repeat' (first | apply And.intro | intro)
              all_goals (try first | omega | contradiction | exact Or.inl trivial | exact Or.inr trivial)
              · exact nx (fun _ kd x y => by omega)
              · exact gh (by omega)
            · rw [show L2 = lv by omega] at gg
              refine b110_135f ?_
              try simp only [w_Ug, reduceIte, Nat.reduceEqDiff, Int.reduceEq, eq_self, d3, d4]
              repeat' (first | apply And.intro | intro)
              all_goals (try first | omega | contradiction | exact Or.inl trivial | exact Or.inr trivial)
              · exact nx (fun _ kd x y => by omega)
              · exact gg (fun kd x y => by omega) (by omega)
          have g2 : ∀ {mm : Int} (I4 : w_I), (∀ a, a ≠ 99 → I4 a = I a) → I 98 (L * (T2 + 1) + R) < 1073741824 → a_J T1 T2 L1 L2 (4096 + pw2 rk) (fun l r => I 98 (l * (T2 + 1) + r)) (a_G L R mm) (fun l r => I4 99 (l * (T2 + 1) + r)) → (∀ kd, mm < kd → kd ≤ 1 → (kd = 1 ∧ L < T1) ∨ (kd = 2 ∧ R < T2) ∨ (kd = 3 ∧ L ≤ L1) ∨ (kd = 4 ∧ R ≤ L2) → False) → R < T2 →
              w_C xs xl 111 [.ref 93, w_i (L * (T2 + 1) + R + 1), w_i (I 98 (L * (T2 + 1) + R) + 65536)] I4 J false (fun v Ic Jc bc => w_T xs xl 110 135 [some (.ref 93), some (w_i h), some (w_i (T2 + 1)), some (w_i (4096 + pw2 rk)), some (w_i L), some (w_i R), some (w_i (I 98 (L * (T2 + 1) + R)))] [] (w_pv v []) Ic Jc bc Q) := by
            intro mm I4 f4 lt4 j4 no ok
            have pt := put (m := 1) (l' := L) (r' := R + 1) (p := 65536) (Q' := fun v Ic Jc bc => w_T xs xl 110 135 [some (.ref 93), some (w_i h), some (w_i (T2 + 1)), some (w_i (4096 + pw2 rk)), some (w_i L), some (w_i R), some (w_i (I 98 (L * (T2 + 1) + R)))] [] (w_pv v []) Ic Jc bc Q) f4 (by omega) (by omega) lt4 (sk j4 no) (Or.inr (Or.inl ⟨by omega, ok, rfl, rfl, rfl⟩)) (fun I5 f5 j5 => t135 I5 f5 lt4 j5)
            rw [show L * (T2 + 1) + (R + 1) = L * (T2 + 1) + R + 1 by omega] at pt
            exact pt
          have t106 : ∀ (I4 : w_I), (∀ a, a ≠ 99 → I4 a = I a) → I 98 (L * (T2 + 1) + R) < 1073741824 → a_J T1 T2 L1 L2 (4096 + pw2 rk) (fun l r => I 98 (l * (T2 + 1) + r)) (a_G L R 1) (fun l r => I4 99 (l * (T2 + 1) + r)) →
              w_T xs xl 110 106 [some (.ref 93), some (w_i h), some (w_i (T2 + 1)), some (w_i (4096 + pw2 rk)), some (w_i L), some (w_i R), some (w_i (I 98 (L * (T2 + 1) + R)))] [] [] I4 J false Q := by
            intro I4 f4 lt4 j4
            obtain ⟨d1, d2, d3, d4, d5⟩ := cell f4
            have nx := nxt 1 (some (w_i (I 98 (L * (T2 + 1) + R)))) I4 f4 j4
            have g4 := g4 I4 f4 lt4 j4
            have g3 := g3 I4 f4 lt4 j4
            have g2 := g2 I4 f4 lt4 j4 (fun kd x y => by omega)
            rcases hs with hs | hs
            · rw [show L1 = lv by omega] at g3
              refine b110_106f ?_
              try simp only [w_Ug, reduceIte, Nat.reduceEqDiff, Int.reduceEq, eq_self, d2, d3, d4]
              repeat' (first | apply And.intro | intro)
              all_goals (try first | omega | contradiction | exact Or.inl trivial | exact Or.inr trivial)
              · exact nx (fun _ kd x y => by omega)
              · exact g3 (fun kd x y => by omega) (by omega)
              · exact g2 (by omega)
            · rw [show L2 = lv by omega] at g4
              refine b110_106f ?_
              try simp only [w_Ug, reduceIte, Nat.reduceEqDiff, Int.reduceEq, eq_self, d2, d3, d4]
              repeat' (first | apply And.intro | intro)
              all_goals (try first | omega | contradiction | exact Or.inl trivial | exact Or.inr trivial)
              · exact nx (fun _ kd x y => by omega)
              · exact g2 (by omega)
          have g1 : ∀ (I4 : w_I), (∀ a, a ≠ 99 → I4 a = I a) → I 98 (L * (T2 + 1) + R) < 1073741824 → a_J T1 T2 L1 L2 (4096 + pw2 rk) (fun l r => I 98 (l * (T2 + 1) + r)) (a_G L R 0) (fun l r => I4 99 (l * (T2 + 1) + r)) → L < T1 →
              w_C xs xl 111 [.ref 93, w_i ((L + 1) * (T2 + 1) + R), w_i (I 98 (L * (T2 + 1) + R) + (4096 + pw2 rk) + 65536)] I4 J false (fun v Ic Jc bc => w_T xs xl 110 106 [some (.ref 93), some (w_i h), some (w_i (T2 + 1)), some (w_i (4096 + pw2 rk)), some (w_i L), some (w_i R), some (w_i (I 98 (L * (T2 + 1) + R)))] [] (w_pv v []) Ic Jc bc Q) := by
            intro I4 f4 lt4 j4 ok
            have pt := put (m := 0) (l' := L + 1) (r' := R) (p := 4096 + pw2 rk + 65536) (Q' := fun v Ic Jc bc => w_T xs xl 110 106 [some (.ref 93), some (w_i h), some (w_i (T2 + 1)), some (w_i (4096 + pw2 rk)), some (w_i L), some (w_i R), some (w_i (I 98 (L * (T2 + 1) + R)))] [] (w_pv v []) Ic Jc bc Q) f4 (by omega) (by omega) lt4 j4 (Or.inl ⟨by omega, ok, rfl, rfl, rfl⟩) (fun I5 f5 j5 => t106 I5 f5 lt4 j5)
            rw [← Int.add_assoc] at pt
            exact pt
          obtain ⟨d1, d2, d3, d4, d5⟩ := cell b2
          have nx := fun u => nxt 0 u I3 b2 b3
          have g4 := fun x => g4 I3 b2 x b3
          have g3 := fun x => g3 I3 b2 x b3
          have g2 := fun x => g2 I3 b2 x b3
          have g1 := fun x => g1 I3 b2 x b3
          generalize hso : I 98 (L * (T2 + 1) + R) = so at nx g4 g3 g2 g1 hc
          have d6 : I3 98 (L * (T2 + 1) + R) = so := by rw [d5]; exact hso
          rcases hs with hs | hs
          · rw [show L1 = lv by omega] at g3
            refine b110_48f ?_
            try simp only [w_Ug, reduceIte, Nat.reduceEqDiff, Int.reduceEq, eq_self, d1, d2, d3, d4, d6]
            repeat' (first | apply And.intro | intro)
            all_goals (try first | omega | contradiction | exact Or.inl trivial | exact Or.inr trivial)
            · exact nx _ (fun _ kd x y => by omega)
            · exact nx _ (fun _ kd x y => by omega)
            · exact g2 (by omega) (fun kd x y => by omega) (by omega)
            · exact g1 (by omega) (by omega)
          · rw [show L2 = lv by omega] at g4
            refine b110_48f ?_
            try simp only [w_Ug, reduceIte, Nat.reduceEqDiff, Int.reduceEq, eq_self, d1, d2, d3, d4, d6]
            repeat' (first | apply And.intro | intro)
            all_goals (try first | omega | contradiction | exact Or.inl trivial | exact Or.inr trivial)
            · exact nx _ (fun _ kd x y => by omega)
            · exact nx _ (fun _ kd x y => by omega)
            · exact g2 (by omega) (fun kd x y => by omega) (by omega)
            · exact g1 (by omega) (by omega)
      exact inner (T2 + 1).toNat 0 _ I2 (by omega) (by omega) a2 a3
  refine outer (T1 + 1).toNat 0 _ _ I1 (by omega) (by omega) f1 ⟨fun l r kd l' r' p x1 x2 x3 x4 x5 x6 x7 => ?_, fun l' r' x1 x2 x3 x4 => Or.inl ?_⟩
  · unfold a_G at x6
    have := a_tr_k x7
    omega
  · have st := a_st_lt hT (l := l') (r := r') ⟨x1, x2⟩ ⟨x3, x4⟩
    exact z1 _ (by omega) (by omega)
end
end
