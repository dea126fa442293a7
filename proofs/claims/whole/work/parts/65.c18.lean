section
/-! the class: LEAST's table, a row -/
variable {xs : Nat → Int32} {xl : Nat} {I J : w_I} {b : Bool} {Q : Option Value → w_I → w_I → Bool → Prop}
variable {s : Int → Int}
def l_cv (v : Int) : Int := v / 1000000 * 262144 + v % 1000000
theorem l_cv_e {M C : Int} (h : 0 ≤ C ∧ C < 1000000) : l_cv (M * 1000000 + C) = M * 262144 + C := by
  unfold l_cv
  rw [show (M * 1000000 + C) / 1000000 = M by omega, show (M * 1000000 + C) % 1000000 = C by omega]
theorem l_cv_lt {M C M' C' : Int} (h : 0 ≤ C ∧ C < 262144) (h' : 0 ≤ C' ∧ C' < 262144) : M * 262144 + C < M' * 262144 + C' ↔ M * 1000000 + C < M' * 1000000 + C' := by
  by_cases c1 : M < M'
  · constructor <;> intro _ <;> omega
  · by_cases c2 : M = M'
    · subst c2; constructor <;> intro _ <;> omega
    · constructor <;> intro _ <;> omega
abbrev l_ps (pay : Int → Int → Int) (lo hi : Int) : Prop := ∀ i h, lo ≤ i → i < hi → ∃ m c, pay i h = m * 1000000 + c ∧ 0 ≤ m ∧ m ≤ 1 ∧ 0 ≤ c ∧ c ≤ 9999
theorem l_v_m {pay : Int → Int → Int} {H lo hi : Int} (hp : l_ps pay lo hi) : ∀ (k : Nat) (i : Int) (j : Nat), lo ≤ i → i + k ≤ hi → ∃ M C, l_v pay H k i j = M * 1000000 + C ∧ 0 ≤ M ∧ M ≤ k ∧ 0 ≤ C ∧ C ≤ 9999 * k
  | 0, _, _, _, _ => ⟨0, 0, rfl, by omega, by omega, by omega, by omega⟩
  | k + 1, i, j, a, c => by
    rw [l_v_s]
    induction j with
    | zero =>
      obtain ⟨M, C, h1, h2, h3, h4, h5⟩ := l_v_m (H := H) hp k (i + 1) 0 (by omega) (by omega)
      obtain ⟨m, c', g1, g2, g3, g4, g5⟩ := hp i (H - (k + 1) - (0 : Nat)) a (by omega)
      refine ⟨M + m, C + c', ?_, by omega, by omega, by omega, by omega⟩
      show l_v pay H k (i + 1) 0 + l_g pay H k i 0 = _
      unfold l_g
      rw [h1, g1]
      omega
    | succ j ihj =>
      rw [l_row_s]
      split
      · exact ihj
      · obtain ⟨M, C, h1, h2, h3, h4, h5⟩ := l_v_m (H := H) hp k (i + 1) (j + 1) (by omega) (by omega)
        obtain ⟨m, c', g1, g2, g3, g4, g5⟩ := hp i (H - (k + 1) - (j + 1 : Nat)) a (by omega)
        refine ⟨M + m, C + c', ?_, by omega, by omega, by omega, by omega⟩
        unfold l_g
        rw [h1, g1]
        omega
theorem m_pf_ps {F : m_F} {cs lo hi : Int} {r : Int → Int} : l_ps (m_pf F s cs r) lo hi := by
  intro i h _ _
  have := m_cost_b (s := s) (F := F) (ag := m_ga s (r i)) (sz := m_gs s (r i)) (lm := m_gl s (r i)) (fr := m_hm s (r i)) (to := h)
  unfold m_pf m_pay
  try dsimp only
  by_cases c1 : m_hm s (r i) = h
  · exact ⟨0, 0, by rw [if_pos c1]; rfl, by omega, by omega, by omega, by omega⟩
  · rw [if_neg c1]
    by_cases c2 : m_hm s (r i) < 0 <;> by_cases c3 : cs = 0
    · rw [if_pos c2, if_pos c3]; exact ⟨0, 0, rfl, by omega, by omega, by omega, by omega⟩
    · rw [if_pos c2, if_neg c3]; exact ⟨0, _, by rw [Int.zero_mul], by omega, by omega, this.1, this.2⟩
    · rw [if_neg c2, if_pos c3]; exact ⟨1, 0, rfl, by omega, by omega, by omega, by omega⟩
    · rw [if_neg c2, if_neg c3]; exact ⟨1, _, by rw [Int.one_mul], by omega, by omega, this.1, this.2⟩
theorem l_mul_b : ∀ n : Fin 25, ∀ m : Fin 26, n.val + m.val ≤ 25 → n.val * m.val ≤ 156 := by decide +kernel
theorem l_idx {n sl i u : Int} (h0 : 0 ≤ i ∧ i < n) (h1 : 0 ≤ u ∧ u ≤ sl) (h2 : n + sl ≤ 24) : 0 ≤ i * (sl + 1) + u ∧ i * (sl + 1) + u < 156 := by
  have b := l_mul_b ⟨n.toNat, by omega⟩ ⟨(sl + 1).toNat, by omega⟩ (by dsimp only; omega)
  try dsimp only at b
  have e : ((n.toNat * (sl + 1).toNat : Nat) : Int) = n * (sl + 1) := by
    rw [Int.natCast_mul, show ((n.toNat : Nat) : Int) = n by omega, show (((sl + 1).toNat : Nat) : Int) = sl + 1 by omega]
  have p0 : 0 ≤ i * (sl + 1) := Int.mul_nonneg h0.1 (by omega)
  have p1 : (i + 1) * (sl + 1) ≤ n * (sl + 1) := Int.mul_le_mul_of_nonneg_right (by omega) (by omega)
  rw [Int.add_mul, Int.one_mul] at p1
  omega
theorem l_idx_lt {sl i i' u u' : Int} (h0 : i < i') (h1 : 0 ≤ u ∧ u ≤ sl) (h2 : 0 ≤ u' ∧ u' ≤ sl) : i * (sl + 1) + u < i' * (sl + 1) + u' := by
  have p1 : (i + 1) * (sl + 1) ≤ i' * (sl + 1) := Int.mul_le_mul_of_nonneg_right (by omega) (by omega)
  rw [Int.add_mul, Int.one_mul] at p1
  omega
def p34 (a : Nat) (k : Int) : Bool := a == 86 || a == 87 || pV a k
theorem pV_34 {I I' : w_I} (h : w_fr pV I I') : w_fr p34 I I' := w_frm h (fun a k e => by
  unfold p34 at e
  cases h : pV a k
  · rfl
  · rw [h, Bool.or_true] at e; cases e)
/-- the best so far, at a row -/
def l_best (I : w_I) (pay : Int → Int → Int) (H sl : Int) (k : Nat) (i : Int) : Prop := ∀ u, 0 ≤ u → u ≤ sl → I 86 u = l_cv (l_v pay H k i (sl - u).toNat)
def l_pick (I : w_I) (pay : Int → Int → Int) (H sl : Int) (k : Nat) (i : Int) : Prop := ∀ u, 0 ≤ u → u ≤ sl → I 87 (i * (sl + 1) + u) = sl - l_pk (l_v pay H k (i + 1)) (l_g pay H k i) (sl - u).toNat
theorem c34 {F : m_F} {i sl H : Int} {k : Nat} {r : Int → Int} (rf : c_rf 20 I s) (w : m_w0 s) (cd : c_cd (I 5) (I 6) (I 7) F s) (ag : c_ag I s 0 (s 3)) (hi : 0 ≤ i) (hk : i + k + 1 + sl = H ∧ 0 ≤ sl ∧ H ≤ 24) (hw : I 84 i = r i) (hrf : m_isF s (r i)) (h28 : I 28 (r i) = m_hm s (r i)) (hb : l_best I (m_pf F s 1 r) H sl k (i + 1))
    (kk : ∀ I', w_fr p34 I I' → l_best I' (m_pf F s 1 r) H sl (k + 1) i → l_pick I' (m_pf F s 1 r) H sl k i → (∀ x, (x < i * (sl + 1) ∨ i * (sl + 1) + sl < x) → I' 87 x = I 87 x) → Q none I' J b) : w_C xs xl 34 [.ref 85, w_i i, w_i sl] I J b Q := by
  have w0 := w.1
  have hr1 := hrf.1
  have hr2 := hrf.2.1
  have hhm : -1 ≤ m_hm s (r i) ∧ m_hm s (r i) < 24 := by
    have := w.2.2.2.1 _ hr1 hr2
    unfold m_hm
    split <;> omega
  have a82 := (ag _ hr1 hr2).1
  have agb := m_ag_b (f := r i) (g := -1) (t := 0) (by' := s 3) w
  have ps := m_pf_ps (s := s) (F := F) (cs := 1) (r := r) (lo := i) (hi := i + 1 + k)
  have payd : ∀ h, m_pf F s 1 r i h = if m_hm s (r i) = h then 0 else (if m_hm s (r i) < 0 then 0 else 1000000) + m_cost F s (m_ga s (r i)) (m_gs s (r i)) (m_gl s (r i)) (m_hm s (r i)) h := fun h => by
    unfold m_pf m_pay
    try dsimp only
    rw [if_neg (show ¬ (1 : Int) = 0 by decide)]
  generalize m_pf F s 1 r = pay at hb kk ps payd
  have idx : ∀ u, 0 ≤ u → u ≤ sl → 0 ≤ i * (sl + 1) + u ∧ i * (sl + 1) + u < 156 := fun u x y => l_idx (n := i + 1) ⟨hi, by omega⟩ ⟨x, y⟩ (by omega)
  refine e34 ?_
  generalize hln : i * (sl + 1) = ln at kk idx ⊢
  have loop : ∀ (m : Nat) (u : Int) (u7 u8 : Option Value) (I1 : w_I), u + 1 = m → u ≤ sl → w_fr p34 I I1 → (∀ u', u < u' → u' ≤ sl → I1 86 u' = l_cv (l_v pay H (k + 1) i (sl - u').toNat)) → (∀ u', 0 ≤ u' → u' ≤ u → I1 86 u' = l_cv (l_v pay H k (i + 1) (sl - u').toNat)) → (∀ u', u < u' → u' ≤ sl → I1 87 (ln + u') = sl - l_pk (l_v pay H k (i + 1)) (l_g pay H k i) (sl - u').toNat) → (∀ x, (x < ln ∨ ln + sl < x) → I1 87 x = I 87 x) →
      w_T xs xl 34 35 [some (.ref 85), some (w_i i), some (w_i sl), some (w_i ln), some (w_i (r i)), some (w_i (m_hm s (r i))), some (w_i u), u7, u8] [] [] I1 J b Q := by
    intro m
    induction m with
    | zero =>
      intro u u7 u8 I1 a0 a1 a2 a3 a4 a5 a6
      have k1 := kk I1 a2 (fun u' x y => a3 u' (by omega) y) (fun u' x y => by rw [hln]; exact a5 u' (by omega) y) (fun x hx => a6 x hx)
      refine b34_35 ?_
      try simp only [w_Ug, reduceIte, Nat.reduceEqDiff, Int.reduceEq, eq_self, if_true]
      repeat' (first | apply And.intro | intro)
      all_goals (try first | omega | contradiction | exact Or.inl trivial | exact Or.inr trivial)
    | succ m ih =>
      intro u u7 u8 I1 a0 a1 a2 a3 a4 a5 a6
      have ix := idx u (by omega) a1
      have bu := a4 u (by omega) (Int.le_refl _)
      obtain ⟨M, C, m1, m2, m3, m4, m5⟩ := l_v_m (H := H) ps k (i + 1) (sl - u).toNat (by omega) (by omega)
      have cvu : l_cv (l_v pay H k (i + 1) (sl - u).toNat) = M * 262144 + C := by rw [m1]; exact l_cv_e (by omega)
      obtain ⟨pm, pc, p1, p2, p3, p4, p5⟩ := ps i (i + u) (Int.le_refl _) (by omega)
      have eg : ∀ j : Nat, (j : Int) = sl - u → l_g pay H k i j = pay i (i + u) := fun j hj => by
        unfold l_g
        rw [show H - ((k : Int) + 1) - j = i + u by omega]
      -- what comes behind: 'here' is v
      have fin : ∀ (v : Int) (I2 : w_I) (x : Int) (px : Int) (u7 u8 : Option Value), w_fr p34 I I2 → I2 86 = I1 86 → I2 87 = I1 87 → v = (M + pm) * 262144 + (C + pc) → ((u = sl ∨ v ≤ I1 86 (u + 1)) ∧ x = v ∧ px = u ∨ ((u < sl ∧ ¬ v ≤ I1 86 (u + 1)) ∧ x = I1 86 (u + 1) ∧ px = I1 87 (ln + u + 1))) →
          w_T xs xl 34 35 [some (.ref 85), some (w_i i), some (w_i sl), some (w_i ln), some (w_i (r i)), some (w_i (m_hm s (r i))), some (w_i (u + -1)), u7, u8] [] [] (w_U (w_U I2 86 u x) 87 (ln + u) px) J b Q := by
        intro v I2 x px u7 u8 fr2 e86 e87 ev hx
        have key : x = l_cv (l_v pay H (k + 1) i (sl - u).toNat) ∧ px = sl - l_pk (l_v pay H k (i + 1)) (l_g pay H k i) (sl - u).toNat := by
          rw [l_v_s]
          by_cases c : u = sl
          · obtain ⟨-, h2, h3⟩ := hx.elim id (fun z => by omega)
            rw [show (sl - u).toNat = 0 by omega] at m1 ⊢
            refine ⟨?_, ?_⟩
            · show x = l_cv (l_v pay H k (i + 1) 0 + l_g pay H k i 0)
              rw [m1, eg 0 (by omega), p1, show M * 1000000 + C + (pm * 1000000 + pc) = (M + pm) * 1000000 + (C + pc) by omega, l_cv_e (by omega), h2, ev]
            · show px = sl - ((0 : Nat) : Int)
              omega
          · have a3u := a3 (u + 1) (by omega) (by omega)
            have a5u := a5 (u + 1) (by omega) (by omega)
            rw [l_v_s] at a3u
            obtain ⟨j, hj⟩ : ∃ j : Nat, (sl - (u + 1)).toNat = j := ⟨_, rfl⟩
            rw [hj] at a3u a5u
            obtain ⟨N, D, n1, n2, n3, n4, n5⟩ := l_v_m (H := H) ps (k + 1) i j (by omega) (by omega)
            rw [l_v_s] at n1
            rw [show (sl - u).toNat = j + 1 by omega] at m1 ⊢
            rw [l_row_s, l_pk_s, m1, eg (j + 1) (by omega), p1, show M * 1000000 + C + (pm * 1000000 + pc) = (M + pm) * 1000000 + (C + pc) by omega]
            have cvn : l_cv (l_row (l_v pay H k (i + 1)) (l_g pay H k i) j) = N * 262144 + D := by rw [n1]; exact l_cv_e (by omega)
            have lt := l_cv_lt (M := N) (C := D) (M' := M + pm) (C' := C + pc) (by omega) (by omega)
            rw [show ln + u + 1 = ln + (u + 1) by omega, a5u, a3u, cvn] at hx
            rw [n1]
            by_cases c2 : N * 1000000 + D < (M + pm) * 1000000 + (C + pc)
            · have := lt.mpr c2
              rw [if_pos c2, if_pos c2, l_cv_e (by omega)]
              omega
            · have : ¬ (N * 262144 + D < (M + pm) * 262144 + (C + pc)) := fun z => c2 (lt.mp z)
              rw [if_neg c2, if_neg c2, l_cv_e (by omega)]
              omega
        refine ih (u + -1) u7 u8 _ (by omega) (by omega) (w_frU (w_frU fr2 rfl) rfl) (fun u' x' y' => ?_) (fun u' x' y' => ?_) (fun u' x' y' => ?_) (fun x' hx' => ?_)
        · simp only [w_Ug, reduceIte, Nat.reduceEqDiff]
          by_cases e : u' = u
          · rw [if_pos e, e]; exact key.1
          · rw [if_neg e, e86]; exact a3 u' (by omega) y'
        · simp only [w_Ug, reduceIte, Nat.reduceEqDiff]
          rw [if_neg (by omega), e86]
          exact a4 u' x' (by omega)
        · simp only [w_Ug, reduceIte, Nat.reduceEqDiff]
          by_cases e : u' = u
          · rw [if_pos (by omega), e]; exact key.2
          · rw [if_neg (by omega), e87]; exact a5 u' (by omega) y'
        · simp only [w_Ug, reduceIte, Nat.reduceEqDiff]
          rw [if_neg (by omega), e87]
          exact a6 x' hx'
      have b1 : u < sl → w_in (I1 86 (u + 1)) ∧ 0 ≤ ln + u + 1 ∧ ln + u + 1 < 156 := by
        intro c
        obtain ⟨N, D, n1, n2, n3, n4, n5⟩ := l_v_m (H := H) ps (k + 1) i (sl - (u + 1)).toNat (by omega) (by omega)
        have a3u := a3 (u + 1) (by omega) (by omega)
        rw [n1, l_cv_e (by omega)] at a3u
        have := idx (u + 1) (by omega) (by omega)
        omega
      have bi : w_in (I1 86 u) := by rw [bu, cvu]; omega
      by_cases st : m_hm s (r i) = i + u
      · rw [payd, if_pos st] at p1
        have z : pm = 0 ∧ pc = 0 := by omega
        refine b34_35 ?_
        try simp only [w_Ug, reduceIte, Nat.reduceEqDiff, Int.reduceEq, eq_self, if_true]
        repeat' (first | apply And.intro | intro)
        all_goals (try first | omega | contradiction | exact Or.inl trivial | exact Or.inr trivial)
        · exact fin _ I1 _ _ _ _ a2 rfl rfl (by rw [bu, cvu, z.1, z.2]; omega) (Or.inl ⟨by omega, rfl, rfl⟩)
        · rename_i x1 x2
          exact fin _ I1 _ _ _ _ a2 rfl rfl (by rw [bu, cvu, z.1, z.2]; omega) (Or.inl ⟨Or.inr x2, rfl, rfl⟩)
        · rename_i x1 x2
          exact fin _ I1 _ _ _ _ a2 rfl rfl (by rw [bu, cvu, z.1, z.2]; omega) (Or.inr ⟨⟨by omega, x2⟩, rfl, rfl⟩)
      · rw [payd, if_neg st] at p1
        have rf1 : c_rf 20 I1 s := c_rf_fr (fun x h1 h2 => w_frA a2 (fun k => by
          have e1 : (x == 80) = false := by simp; omega
          have e2 : (x == 81) = false := by simp; omega
          have e3 : (x == 79) = false := by simp; omega
          have e4 : (x == 86) = false := by simp; omega
          have e5 : (x == 87) = false := by simp; omega
          simp only [p34, pV, p96, e1, e2, e3, e4, e5, Bool.false_and, Bool.or_false])) rf
        have cd1 := c_cd_fr cd a2 (fun _ => rfl) (fun _ => rfl) (fun _ => rfl)
        have i82 : I1 82 (r i) = m_ga s (r i) := by rw [w_frA (a := 82) a2 (fun _ => rfl)]; exact a82
        have i28 : I1 28 (r i) = m_hm s (r i) := by rw [w_frA (a := 28) a2 (fun _ => rfl)]; exact h28
        refine b34_35 ?_
        try simp only [w_Ug, reduceIte, Nat.reduceEqDiff, Int.reduceEq, eq_self, if_true]
        repeat' (first | apply And.intro | intro)
        all_goals (try first | omega | contradiction | exact Or.inl trivial | exact Or.inr trivial)
        refine c29 rf1 w cd1 ⟨hr1, hr2⟩ (by rw [i82]; have := m_ga_b w (f := r i); omega) (by omega) (by rw [i28]; exact hhm) (fun I2 fr2 => ?_)
        rw [i82, i28]
        have cb := m_cost_b (s := s) (F := F) (ag := m_ga s (r i)) (sz := m_gs s (r i)) (lm := m_gl s (r i)) (fr := m_hm s (r i)) (to := i + u)
        have e86 : I2 86 = I1 86 := w_frA fr2 (fun _ => rfl)
        have e87 : I2 87 = I1 87 := w_frA fr2 (fun _ => rfl)
        have fr := w_frt a2 (pV_34 fr2)
        generalize m_cost F s (m_ga s (r i)) (m_gs s (r i)) (m_gl s (r i)) (m_hm s (r i)) (i + u) = co at cb p1 ⊢
        have fin := fun v x px u7 u8 => fin v I2 x px u7 u8 fr e86 e87
        have bu1 := bu
        rw [← e86] at fin b1 bi bu
        rw [← e87] at fin
        by_cases c3 : m_hm s (r i) < 0
        · rw [if_pos c3] at p1
          have z : pm = 0 ∧ pc = co := by omega
          refine b34_73 ?_
          try simp only [w_Ug, reduceIte, Nat.reduceEqDiff, Int.reduceEq, eq_self, if_true]
          repeat' (first | apply And.intro | intro)
          all_goals (try first | omega | contradiction | exact Or.inl trivial | exact Or.inr trivial)
          · exact fin _ _ _ _ _ (by rw [bu1, cvu, z.1, z.2]; omega) (Or.inl ⟨by omega, rfl, rfl⟩)
          · rename_i x1 x2 x3
            exact fin _ _ _ _ _ (by rw [bu1, cvu, z.1, z.2]; omega) (Or.inl ⟨Or.inr x3, rfl, rfl⟩)
          · rename_i x1 x2 x3
            exact fin _ _ _ _ _ (by rw [bu1, cvu, z.1, z.2]; omega) (Or.inr ⟨⟨by omega, x3⟩, rfl, rfl⟩)
        · rw [if_neg c3] at p1
          have z : pm = 1 ∧ pc = co := by omega
          refine b34_73 ?_
          try simp only [w_Ug, reduceIte, Nat.reduceEqDiff, Int.reduceEq, eq_self, if_true]
          repeat' (first | apply And.intro | intro)
          all_goals (try first | omega | contradiction | exact Or.inl trivial | exact Or.inr trivial)
          · exact fin _ _ _ _ _ (by rw [bu1, cvu, z.1, z.2]; omega) (Or.inl ⟨by omega, rfl, rfl⟩)
          · rename_i x1 x2 x3
            exact fin _ _ _ _ _ (by rw [bu1, cvu, z.1, z.2]; omega) (Or.inl ⟨Or.inr x3, rfl, rfl⟩)
          · rename_i x1 x2 x3
            exact fin _ _ _ _ _ (by rw [bu1, cvu, z.1, z.2]; omega) (Or.inr ⟨⟨by omega, x3⟩, rfl, rfl⟩)
  refine b34_0 ?_
  try simp only [w_Ug, reduceIte, Nat.reduceEqDiff, Int.reduceEq, eq_self, hw, h28, hln]
  repeat' (first | apply And.intro | intro)
  all_goals (try first | omega | contradiction | exact Or.inl trivial | exact Or.inr trivial)
  exact loop (sl + 1).toNat sl _ _ I (by omega) (Int.le_refl _) w_frr (fun u' x y => by omega) (fun u' x y => hb u' x y) (fun u' x y => by omega) (fun x hx => rfl)
end
