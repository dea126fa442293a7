section
/-! reading, the class: what is told, its steps -/
variable {xs : Nat → Int32} {xl : Nat} {I J : w_I} {b : Bool} {Q : Option Value → w_I → w_I → Bool → Prop}
variable {G K V P M : Int → Int} {n N h : Int} {S : z_S}
def z_df (w : Int) : Int := if w = 1 then 10009 else if w = 3 then 0 else 1
def z_dw (o : Option (List Int)) (w : Int) : List Int := match o with
  | none => [z_df w]
  | some C => C
def zCl (I : w_I) (S : z_S) : Prop := ∀ w, 0 ≤ w → w < 4 → 0 ≤ I 13 w ∧ I 14 w = I 13 w + (z_dw (q_lw S w) w).length ∧ I 14 w ≤ I 9 9 ∧ z_at (I 12) (I 13 w) (z_dw (q_lw S w) w)
def zCr (I : w_I) (S : z_S) : Prop := ∀ (r : Nat) (L : List z_L), (q_ru S)[r]? = some L → 0 ≤ I 13 (4 + r) ∧ I 14 (4 + r) = I 13 (4 + r) + (z_rw L 0).length ∧ I 14 (4 + r) ≤ I 9 9 ∧ z_at (I 12) (I 13 (4 + r)) (z_rw L 0)
/-- the class while it reads -/
def zC (I : w_I) (G : Int → Int) (n : Int) (K V P : Int → Int) (N h : Int) (S : z_S) : Prop :=
  (zG I G n ∧ zT I K V P N) ∧ (I 8 9 = h ∧ I 8 10 = 0) ∧ ((q_ln S = 0 ∨ q_ln S = 3 ∨ q_ln S = 5) ∧ I 8 12 = q_ln S ∧ (q_ln S ≠ 0 → I 8 13 = P (q_li S))) ∧ (I 9 5 = (q_sd S).length ∧ z_at (I 10) 0 (q_sd S) ∧ z_at (I 11) 0 (q_gd S) ∧ z_at (I 18) 0 (q_tk S)) ∧ (I 9 6 = q_st S ∧ I 9 7 = q_la S ∧ I 9 10 = q_by S ∧ I 9 8 = (q_ru S).length) ∧ (0 ≤ I 9 9 ∧ I 9 9 ≤ 4 + h) ∧ zCl I S ∧ zCr I S
theorem zCl_f {I' : w_I} (hz : zCl I S) (h9 : I' 9 9 = I 9 9) (h12 : I' 12 = I 12) (h13 : I' 13 = I 13) (h14 : I' 14 = I 14) : zCl I' S := by
  unfold zCl
  rw [h9, h12, h13, h14]
  exact hz
theorem zCr_f {I' : w_I} (hz : zCr I S) (h9 : I' 9 9 = I 9 9) (h12 : I' 12 = I 12) (h13 : I' 13 = I 13) (h14 : I' 14 = I 14) : zCr I' S := by
  unfold zCr
  rw [h9, h12, h13, h14]
  exact hz
/-- the same but for what is told late -/
def zSl (S S' : z_S) : Prop := q_sd S' = q_sd S ∧ q_gd S' = q_gd S ∧ q_tk S' = q_tk S ∧ q_st S' = q_st S ∧ q_la S' = q_la S ∧ q_by S' = q_by S ∧ q_lw S' = q_lw S ∧ q_ru S' = q_ru S
theorem zSl_r : zSl S S := ⟨rfl, rfl, rfl, rfl, rfl, rfl, rfl, rfl⟩
theorem zSl_nl {z i : Int} : zSl S (z_nl z i S) := by
  unfold z_nl
  split
  · exact ⟨rfl, rfl, rfl, rfl, rfl, rfl, rfl, rfl⟩
  · exact zSl_r
theorem zC_8 {h' : Int} {S' : z_S} {I' : w_I} (hz : zC I G n K V P N h S) (hs : zSl S S') (f : ∀ a, a ≠ 8 → I' a = I a) (h8 : I' 8 8 = I 8 8) (h9 : I' 8 9 = h') (h10 : I' 8 10 = 0) (hl : (q_ln S' = 0 ∨ q_ln S' = 3 ∨ q_ln S' = 5) ∧ I' 8 12 = q_ln S' ∧ (q_ln S' ≠ 0 → I' 8 13 = P (q_li S'))) (hh : h ≤ h') : zC I' G n K V P N h' S' := by
  obtain ⟨⟨g, t⟩, -, -, ⟨b1, b2, b3, b4⟩, ⟨c1, c2, c3, c4⟩, d, e1, e2⟩ := hz
  obtain ⟨s1, s2, s3, s4, s5, s6, s7, s8⟩ := hs
  refine ⟨⟨zG_f g h8 (f 1 (by decide)), zT_f t (f 15 (by decide)) (f 16 (by decide)) (f 17 (by decide))⟩, ⟨h9, h10⟩, hl, ?_, ?_, ?_, ?_, ?_⟩
  · rw [f 9 (by decide), f 10 (by decide), f 11 (by decide), f 18 (by decide), s1, s2, s3]
    exact ⟨b1, b2, b3, b4⟩
  · rw [f 9 (by decide), s4, s5, s6, s8]
    exact ⟨c1, c2, c3, c4⟩
  · rw [f 9 (by decide)]
    omega
  · have := zCl_f (I' := I') e1 (by rw [f 9 (by decide)]) (f 12 (by decide)) (f 13 (by decide)) (f 14 (by decide))
    unfold zCl at this ⊢
    rw [s7]
    exact this
  · have := zCr_f (I' := I') e2 (by rw [f 9 (by decide)]) (f 12 (by decide)) (f 13 (by decide)) (f 14 (by decide))
    unfold zCr at this ⊢
    rw [s8]
    exact this
theorem p8_Z {I I' : w_I} (f : ∀ a, a ≠ 8 → I' a = I a) : w_fr pzZ I I' := fun a k e => by
  have : a ≠ 8 := fun x => by subst x; cases e
  rw [f a this]
theorem zC_p (hz : zC I G n K V P N h S) : zC (w_U I 8 9 (h + 1)) G n K V P N (h + 1) S := by
  have h1 := hz.2.1
  have h2 := hz.2.2.1
  exact zC_8 hz zSl_r (fun a x => w_Ua x) (by simp [w_Ug]) (by simp [w_Ug]) (by simp [w_Ug]; exact h1.2) ⟨h2.1, by simp [w_Ug]; exact h2.2.1, by simp [w_Ug]; exact h2.2.2⟩ (by omega)
theorem c77z (hN : zN K V P N) {f : Int → z_R} {R : z_R} {S0 : z_S} (hR : z_pa h S0 f = R) (hz : zC I G n K V P N h S) (hh : 0 ≤ h ∧ h ≤ N) (hk : 2 ≤ K h) (k1 : zC (w_U I 8 9 (h + 1)) G n K V P N (h + 1) S → h + 1 ≤ N → f (h + 1) = R → Q (some (w_i 1)) (w_U I 8 9 (h + 1)) J b) (k0 : R.1 ≠ 0 → ∀ I', zB I I' R.1 (P R.2.1) → Q (some (w_i 0)) I' J b) : w_C xs xl 77 [.ref 8] I J b Q := by
  unfold z_pa at hR
  refine c77 hz.1.2 hN.1.2 hz.2.1.1 hh (fun c => ?_) (fun c I' g => ?_)
  · rw [if_neg (by omega)] at hR
    exact k1 (zC_p hz) (zN_x hN hh hk (by omega)) hR
  · rw [if_pos c] at hR
    rw [← hR] at k0
    exact k0 (by simp) I' g
theorem c78z (hN : zN K V P N) {f : Int → z_R} {R : z_R} {S0 : z_S} {w : Int} (hR : z_wa K w h S0 f = R) (hz : zC I G n K V P N h S) (hh : 0 ≤ h ∧ h ≤ N) (hw : 2 ≤ w ∧ w ≤ 46) (k1 : K h = w → zC (w_U I 8 9 (h + 1)) G n K V P N (h + 1) S → h + 1 ≤ N → f (h + 1) = R → Q (some (w_i 1)) (w_U I 8 9 (h + 1)) J b) (k0 : R.1 ≠ 0 → ∀ I', zB I I' R.1 (P R.2.1) → Q (some (w_i 0)) I' J b) : w_C xs xl 78 [.ref 8, w_i w] I J b Q := by
  unfold z_wa z_pa at hR
  refine c78 hz.1.2 hN.1.2 hz.2.1.1 hh (hN.2.2.2.1 h hh.1 hh.2).1 (by omega) (fun e c => ?_) (fun e I' g => ?_) (fun e c I' g => ?_)
  · rw [if_pos e, if_neg (by omega)] at hR
    exact k1 e (zC_p hz) (zN_x hN hh (by omega) (by omega)) hR
  · rw [if_neg e] at hR
    rw [← hR] at k0
    exact k0 (by simp) I' g
  · rw [if_pos e, if_pos c] at hR
    rw [← hR] at k0
    exact k0 (by simp) I' g
theorem c79z {z i : Int} (hz : zC I G n K V P N h S) (hzz : z = 3 ∨ z = 5) (k : ∀ I', (∀ a, a ≠ 8 → I' a = I a) → zC I' G n K V P N h (z_nl z i S) → Q none I' J b) : w_C xs xl 79 [.ref 8, w_i z, w_i (P i)] I J b Q := by
  have h1 := hz.2.1
  obtain ⟨l1, l2, l3⟩ := hz.2.2.1
  refine e79 ?_
  by_cases c : q_ln S = 0
  · have kk := k (w_U (w_U I 8 12 z) 8 13 (P i)) (fun a x => by rw [w_Ua x, w_Ua x]) (by
      refine zC_8 hz zSl_nl (fun a x => by rw [w_Ua x, w_Ua x]) (by simp [w_Ug]) (by simp [w_Ug]; exact h1.1) (by simp [w_Ug]; exact h1.2) ?_ (Int.le_refl _)
      unfold z_nl
      rw [if_pos c]
      refine ⟨Or.inr hzz, by simp [w_Ug], fun _ => by simp [w_Ug]⟩)
    refine b79_0 ?_
    try simp only [w_Ug, reduceIte, Nat.reduceEqDiff, Int.reduceEq, eq_self, l2]
    repeat' (first | apply And.intro | intro)
    all_goals (try first | omega | contradiction | exact Or.inl trivial | exact Or.inr trivial)
  · have kk := k I (fun a x => rfl) (by
      have e : z_nl z i S = S := by unfold z_nl; rw [if_neg c]
      rw [e]
      exact hz)
    refine b79_0 ?_
    try simp only [w_Ug, reduceIte, Nat.reduceEqDiff, Int.reduceEq, eq_self, l2]
    repeat' (first | apply And.intro | intro)
    all_goals (try first | omega | contradiction | exact Or.inl trivial | exact Or.inr trivial)
theorem c80z (hN : zN K V P N) {f : z_S → Int → z_R} {R : z_R} {lo hi : Int} (hR : z_nu K V lo hi h S f = R) (hz : zC I G n K V P N h S) (hh : 0 ≤ h ∧ h ≤ N) (hlo : 0 ≤ lo ∧ lo ≤ hi ∧ hi < 10000) (k1 : ∀ I' S2, w_fr pzZ I I' → zC I' G n K V P N (h + 1) S2 → h + 1 ≤ N → f S2 (h + 1) = R → Q (some (w_i 1)) I' J b) (k0 : R.1 ≠ 0 → ∀ I', zB I I' R.1 (P R.2.1) → Q (some (w_i 0)) I' J b) : w_C xs xl 80 [.ref 8, w_i lo, w_i hi] I J b Q := by
  obtain ⟨t1, t2, t3⟩ := hz.1.2 h hh.1 hh.2
  have hNN := hN.1.2
  have kb := hN.2.2.2.1 h hh.1 hh.2
  have kb1 := kb.1
  have kb2 := kb.2.1
  have h9 := hz.2.1.1
  unfold z_nu at hR
  refine e80 ?_
  by_cases c3 : K h = 3
  · rw [if_pos c3] at hR
    by_cases c4 : V h < lo ∨ hi < V h
    · simp only [if_pos c4] at hR
      have fin : w_C xs xl 79 [.ref 8, w_i 5, w_i (P h)] I J b (fun v Ic Jc bc => w_T xs xl 80 59 [some (.ref 8), some (w_i lo), some (w_i hi)] [] (w_pv v []) Ic Jc bc Q) := by
        refine c79z hz (Or.inr rfl) (fun I' f' z' => b80_59 ?_)
        exact c77z hN hR z' hh (by omega) (fun z1 x1 r1 => b80_63 ⟨Or.inr rfl, k1 _ _ (w_frU (p8_Z f') rfl) z1 x1 r1⟩) (fun r I2 g => b80_63 ⟨Or.inl rfl, k0 r I2 (zB_f g (p8_Z f'))⟩)
      refine b80_0 ?_
      try simp only [w_Ug, reduceIte, Nat.reduceEqDiff, Int.reduceEq, eq_self, h9, t1, t2, t3]
      repeat' (first | apply And.intro | intro)
      all_goals (try first | omega | contradiction | exact Or.inl trivial | exact Or.inr trivial)
    · simp only [if_neg c4] at hR
      have fin : w_C xs xl 77 [.ref 8] I J b (fun v Ic Jc bc => w_T xs xl 80 63 [some (.ref 8), some (w_i lo), some (w_i hi)] [] (w_pv v []) Ic Jc bc Q) := c77z hN hR hz hh (by omega) (fun z1 x1 r1 => b80_63 ⟨Or.inr rfl, k1 _ _ (w_frU w_frr rfl) z1 x1 r1⟩) (fun r I2 g => b80_63 ⟨Or.inl rfl, k0 r I2 g⟩)
      refine b80_0 ?_
      try simp only [w_Ug, reduceIte, Nat.reduceEqDiff, Int.reduceEq, eq_self, h9, t1, t2, t3]
      repeat' (first | apply And.intro | intro)
      all_goals (try first | omega | contradiction | exact Or.inl trivial | exact Or.inr trivial)
  · rw [if_neg c3] at hR
    rw [← hR] at k0
    have fin : w_C xs xl 76 [.ref 8, w_i 1] I J b (fun v Ic Jc bc => w_T xs xl 80 18 [some (.ref 8), some (w_i lo), some (w_i hi)] [] (w_pv v []) Ic Jc bc Q) := c76 hz.1.2 hN.1.2 h9 hh (fun I' g => b80_18 ⟨Or.inl rfl, k0 (by simp) I' g⟩)
    refine b80_0 ?_
    try simp only [w_Ug, reduceIte, Nat.reduceEqDiff, Int.reduceEq, eq_self, h9, t1, t2, t3]
    repeat' (first | apply And.intro | intro)
    all_goals (try first | omega | contradiction | exact Or.inl trivial | exact Or.inr trivial)
/-- names as numbers -/
def zM (G : Int → Int) (n : Int) (K V P M : Int → Int) (N : Int) : Prop := ∀ a e, 0 ≤ a → a ≤ N → 0 ≤ e → e ≤ N → K a = 2 → K e = 2 → (0 ≤ V a ∧ V a ≤ 8 ∧ P a + V a ≤ n ∧ V e ≤ 8 ∧ P e + V e ≤ n) ∧ (M a = M e ↔ V a = V e ∧ ∀ i, 0 ≤ i → i < V a → G (P a + i) = G (P e + i))
theorem c84 (hN : zN K V P N) (hM : zM G n K V P M N) (hG : zG I G n) (hT : zT I K V P N) {a e : Int} (ha : 0 ≤ a ∧ a ≤ N) (he : 0 ≤ e ∧ e ≤ N) (ka : K a = 2) (ke : K e = 2) (k1 : M a = M e → Q (some (w_i 1)) I J b) (k0 : ¬ M a = M e → Q (some (w_i 0)) I J b) : w_C xs xl 84 [.ref 8, w_i a, w_i e] I J b Q := by
  have hNN := hN.1.2
  have hn := hG.2.1
  obtain ⟨-, ta2, ta3⟩ := hT a ha.1 ha.2
  obtain ⟨-, te2, te3⟩ := hT e he.1 he.2
  have pa := (hN.2.2.2.1 a ha.1 ha.2).2.2.1
  have pe := (hN.2.2.2.1 e he.1 he.2).2.2.1
  obtain ⟨⟨m1, m2, m3, m4, m5⟩, m6⟩ := hM a e ha.1 ha.2 he.1 he.2 ka ke
  have m0 := (hM e a he.1 he.2 ha.1 ha.2 ke ka).1.1
  refine e84 ?_
  by_cases c : V a = V e
  · have loop : ∀ (m : Nat) (l3 : Int), l3 + m = V a → 0 ≤ l3 → (∀ i, 0 ≤ i → i < l3 → G (P a + i) = G (P e + i)) → w_T xs xl 84 19 [some (.ref 8), some (w_i a), some (w_i e), some (w_i l3)] [] [] I J b Q := by
      intro m
      induction m with
      | zero =>
        intro l3 a0 a1 a2
        have kk := k1 (m6.mpr ⟨c, fun i x y => a2 i x (by omega)⟩)
        refine b84_19 ?_
        try simp only [w_Ug, reduceIte, Nat.reduceEqDiff, Int.reduceEq, eq_self, ta2]
        repeat' (first | apply And.intro | intro)
        all_goals (try first | omega | contradiction | exact Or.inl trivial | exact Or.inr trivial)
      | succ m ih =>
        intro l3 a0 a1 a2
        have g1 := zG_b hG (k := P a + l3) (by omega)
        have g2 := zG_b hG (k := P e + l3) (by omega)
        refine b84_19 ?_
        try simp only [w_Ug, reduceIte, Nat.reduceEqDiff, Int.reduceEq, eq_self, ta2, ta3]
        repeat' (first | apply And.intro | intro)
        all_goals (try first | omega | contradiction | exact Or.inl trivial | exact Or.inr trivial)
        refine c66 hG (by omega) ?_
        refine b84_41 ?_
        try simp only [w_Ug, reduceIte, Nat.reduceEqDiff, Int.reduceEq, eq_self, te3]
        repeat' (first | apply And.intro | intro)
        all_goals (try first | omega | contradiction | exact Or.inl trivial | exact Or.inr trivial)
        refine c66 hG (by omega) ?_
        by_cases c2 : G (P a + l3) = G (P e + l3)
        · have nx := ih (l3 + 1) (by omega) (by omega) (fun i x y => by
            by_cases e2 : i = l3
            · subst e2
              exact c2
            · exact a2 i x (by omega))
          refine b84_53 ?_
          try simp only [w_Ug, reduceIte, Nat.reduceEqDiff, Int.reduceEq, eq_self, if_true]
          repeat' (first | apply And.intro | intro)
          all_goals (try first | omega | contradiction | exact Or.inl trivial | exact Or.inr trivial)
        · have kk := k0 (fun x => c2 ((m6.mp x).2 l3 a1 (by omega)))
          refine b84_53 ?_
          try simp only [w_Ug, reduceIte, Nat.reduceEqDiff, Int.reduceEq, eq_self, if_true]
          repeat' (first | apply And.intro | intro)
          all_goals (try first | omega | contradiction | exact Or.inl trivial | exact Or.inr trivial)
    have q := loop (V a).toNat 0 (by omega) (by omega) (fun i x y => by omega)
    refine b84_0 ?_
    try simp only [w_Ug, reduceIte, Nat.reduceEqDiff, Int.reduceEq, eq_self, ta2, te2]
    repeat' (first | apply And.intro | intro)
    all_goals (try first | omega | contradiction | exact Or.inl trivial | exact Or.inr trivial)
  · have kk := k0 (fun x => c (m6.mp x).1)
    refine b84_0 ?_
    try simp only [w_Ug, reduceIte, Nat.reduceEqDiff, Int.reduceEq, eq_self, ta2, te2]
    repeat' (first | apply And.intro | intro)
    all_goals (try first | omega | contradiction | exact Or.inl trivial | exact Or.inr trivial)
theorem z_nl_i {z i : Int} (hz : z ≠ 0) : z_nl z i (z_nl z i S) = z_nl z i S := by
  by_cases c : q_ln S = 0
  · have e : q_ln (z_nl z i S) = z := by unfold z_nl; rw [if_pos c]
    have : z_nl z i (z_nl z i S) = if q_ln (z_nl z i S) = 0 then _ else z_nl z i S := rfl
    rw [this, if_neg (by omega)]
  · have e : z_nl z i S = S := by unfold z_nl; rw [if_neg c]
    rw [e, e]
theorem c83 (hN : zN K V P N) (hM : zM G n K V P M N) (hz : zC I G n K V P N h S) (hq : zQ K h S) (hh : 0 ≤ h ∧ h ≤ N) {t : Int} (ht : 0 ≤ t ∧ t < h) (kt : K t = 2) (hl : (q_sd S).length < 24) (k : ∀ I', (∀ a, a ≠ 8 → a ≠ 18 → I' a = I a) → w_fr pzZ I I' → zC I' G n K V P N h (z_nn M t S) → I' 18 (q_sd S).length = t → Q none I' J b) : w_C xs xl 83 [.ref 8, w_i t] I J b Q := by
  have hNN := hN.1.2
  have e95 := hz.2.2.2.1.1
  have l18 := hz.2.2.2.1.2.2.2
  have hql := hq.1.2.1
  refine e83 (b83_0 ?_)
  generalize hU : z_nn M t S = U at k
  unfold z_nn at hU
  have loop : ∀ (rest : List Int) (l2 : Int) (I1 : w_I) (T : z_S), z_at (I 18) l2 rest → l2 + rest.length = (q_sd S).length → 0 ≤ l2 → (∀ x ∈ rest, 0 ≤ x ∧ x < h ∧ K x = 2) → (∀ a, a ≠ 8 → I1 a = I a) → zC I1 G n K V P N h T → (q_sd T).length = (q_sd S).length → (q_tk T).length = (q_sd S).length → (if z_in M (M t) rest = true then z_nl 3 t T else T) = U → w_T xs xl 83 2 [some (.ref 8), some (w_i t), some (w_i l2)] [] [] I1 J b Q := by
    intro rest
    induction rest with
    | nil =>
      intro l2 I1 T a0 a1 a2 a3 a4 a5 a6 a7 a8
      have a8 : T = U := a8
      have a1 : l2 + 0 = (q_sd S).length := a1
      have e1 : I1 9 5 = (q_sd S).length := by rw [a4 9 (by decide)]; exact e95
      have kk := k (w_U I1 18 (q_sd S).length t) (fun a x y => by rw [w_Ua y, a4 a x]) (w_frU (p8_Z a4) rfl) (by
        obtain ⟨⟨g, tt⟩, b1, b2, ⟨c1, c2, c3, c4⟩, d, e, f1, f2⟩ := a5
        rw [← a8]
        refine ⟨⟨zG_f g (by rw [w_Ua (by decide)]) (w_Ua (by decide)), zT_f tt (w_Ua (by decide)) (w_Ua (by decide)) (w_Ua (by decide))⟩, ?_, ?_, ⟨?_, ?_, ?_, ?_⟩, ?_, ?_, zCl_f f1 (by rw [w_Ua (by decide)]) (w_Ua (by decide)) (w_Ua (by decide)) (w_Ua (by decide)), zCr_f f2 (by rw [w_Ua (by decide)]) (w_Ua (by decide)) (w_Ua (by decide)) (w_Ua (by decide))⟩
        · rw [w_Ua (by decide)]; exact b1
        · rw [w_Ua (by decide)]; exact b2
        · rw [w_Ua (by decide)]; exact c1
        · rw [w_Ua (by decide)]; exact c2
        · rw [w_Ua (by decide)]; exact c3
        · rw [w_U1]
          exact z_at_c _ _ (fun j x y => by rw [u1g, if_neg (by omega)]) c4
        · rw [w_Ua (by decide)]; exact d
        · rw [w_Ua (by decide)]; exact e) (by rw [w_U1, u1g, if_pos rfl])
      refine b83_2 ?_
      try simp only [w_Ug, reduceIte, Nat.reduceEqDiff, Int.reduceEq, eq_self, e1]
      repeat' (first | apply And.intro | intro)
      all_goals (try first | omega | contradiction | exact Or.inl trivial | exact Or.inr trivial)
    | cons x r ih =>
      intro l2 I1 T a0 a1 a2 a3 a4 a5 a6 a7 a8
      have hlen := z_len x r
      obtain ⟨x1, x2, x3⟩ := a3 x (by simp)
      have e1 : I1 9 5 = (q_sd S).length := by rw [a4 9 (by decide)]; exact e95
      have e2 : I1 18 l2 = x := by rw [a4 18 (by decide)]; exact a0.1
      have e3 := (a5.1.2 t ht.1 (by omega)).2.2
      have a8 : (if (decide (M x = M t) || z_in M (M t) r) = true then z_nl 3 t T else T) = U := a8
      refine b83_2 ?_
      try simp only [w_Ug, reduceIte, Nat.reduceEqDiff, Int.reduceEq, eq_self, e1, e2]
      repeat' (first | apply And.intro | intro)
      all_goals (try first | omega | contradiction | exact Or.inl trivial | exact Or.inr trivial)
      refine c84 hN hM a5.1.1 a5.1.2 ⟨x1, by omega⟩ ⟨ht.1, by omega⟩ x3 kt (fun c => ?_) (fun c => ?_)
      · rw [decide_eq_true c, Bool.true_or, if_pos rfl] at a8
        refine b83_24 ?_
        try simp only [w_Ug, reduceIte, Nat.reduceEqDiff, Int.reduceEq, eq_self, e3]
        repeat' (first | apply And.intro | intro)
        all_goals (try first | omega | contradiction | exact Or.inl trivial | exact Or.inr trivial)
        refine c79z a5 (Or.inl rfl) (fun I2 f2 z2 => b83_38 ?_)
        refine ih (l2 + 1) I2 (z_nl 3 t T) a0.2 (by omega) (by omega) (fun y hy => a3 y (by simp [hy])) (fun a y => (f2 a y).trans (a4 a y)) z2 ?_ ?_ ?_
        · rw [zSl_nl.1]; exact a6
        · rw [zSl_nl.2.2.1]; exact a7
        · rw [z_nl_i (by decide), a8]
          split <;> rfl
      · rw [decide_eq_false c, Bool.false_or] at a8
        have nx := ih (l2 + 1) I1 T a0.2 (by omega) (by omega) (fun y hy => a3 y (by simp [hy])) a4 a5 a6 a7 a8
        refine b83_24 ?_
        try simp only [w_Ug, reduceIte, Nat.reduceEqDiff, Int.reduceEq, eq_self, e3]
        repeat' (first | apply And.intro | intro)
        all_goals (try first | omega | contradiction | exact Or.inl trivial | exact Or.inr trivial)
  exact loop (q_tk S) 0 I S l18 (by omega) (by omega) hq.2.1 (fun _ _ => rfl) hz rfl hql hU
end
