section
/-! reading, the reference: tells -/
variable {xs : Nat → Int32} {xl : Nat} {I J : w_I} {b : Bool} {Q : Option Value → w_I → w_I → Bool → Prop}
variable {K V P M : Int → Int} {N h : Int} {S : z_S}
theorem s194 (hN : zN K V P N) (hT : zU I J K V P M N) (hz : zK I J P M h S) (hq : zQ K h S) (hh : 0 ≤ h ∧ h ≤ N) (hk : 2 ≤ K h) {R : z_R} {w hi : Int} {up : Int → z_S → z_S} (hw : 1 ≤ w ∧ w ≤ 3) (hhi : 1 ≤ hi ∧ hi < 10000) (hR : z_pa h S (fun h1 => z_fi K V 1 hi h1 (up (V h1) S)) = R)
    (hu : ∀ (I' : w_I) (h' v : Int) (U : z_S), zK I' J P M h' U → zK (w_U I' 110 (700 + w) v) J P M h' (up v U)) (hn : ∀ (v i : Int) (U : z_S), up v (z_nl 5 i U) = z_nl 5 i (up v U))
    (k1 : ∀ (I' J' : w_I) (h' : Int) (S' : z_S), zFr I I' → J' 109 = J 109 → zK I' J' P M h' S' → 0 ≤ h' ∧ h' ≤ N → z_en K S' h' = R → Q (some (w_i 1)) I' J' b)
    (k0 : R.1 ≠ 0 → ∀ I' J', zF I I' R.1 (P R.2.1) → Q (some (w_i 0)) I' J' b) : w_C xs xl 194 [.ref 104, w_i w, w_i hi] I J b Q := by
  have hNN := hN.1.2
  refine e194 (b194_0 (s177z hN hR hT hz hh hk (fun z1 x1 hR => ?_) (fun r I' f => ?_)))
  · have f1 : zFr I (w_U I 104 7 (h + 1)) := zfU zfr (pz4_V (by decide))
    have t1 : zU (w_U I 104 7 (h + 1)) J K V P M N := zU_f hT (w_Ua (by decide)) (w_Ua (by decide)) (w_Ua (by decide))
    generalize w_U I 104 7 (h + 1) = I1 at z1 f1 t1
    refine b194_4 ?_
    try simp only [w_Ug, reduceIte, Nat.reduceEqDiff, Int.reduceEq, eq_self, if_true]
    repeat' (first | apply And.intro | intro)
    all_goals (try first | omega | contradiction | exact Or.inl trivial | exact Or.inr trivial)
    unfold z_fi z_nu at hR
    refine s181 hN t1 z1 ⟨by omega, x1⟩ (fun x => ⟨(hq.2.2 x).1, by have := (hq.2.2 x).2; omega⟩) (by omega) (fun c3 cc I5 f5 z5 e25 => ?_) (fun c3 I' g => ?_) (fun c3 cc I' g => ?_)
    · rw [if_pos c3] at hR
      unfold z_pa at hR
      rw [if_neg cc] at hR
      have x5 : h + 1 + 1 ≤ N := zN_x hN ⟨by omega, x1⟩ (by omega) cc
      have v3 := (hN.2.2.2.1 (h + 1) (by omega) x1).2.1
      have f6 : zFr I (w_U I5 110 (700 + w) (V (h + 1))) := zfU (zft f1 (p81_r f5)) (pz110_V (by omega))
      refine b194_13 ?_
      try simp only [w_Ug, reduceIte, Nat.reduceEqDiff, Int.reduceEq, eq_self, e25]
      repeat' (first | apply And.intro | intro)
      all_goals (try first | omega | contradiction | exact Or.inl trivial | exact Or.inr trivial)
      refine s190 rfl (by omega) (b194_27 ?_)
      by_cases cb : V (h + 1) < 1 ∨ hi < V (h + 1)
      · simp only [if_pos cb] at z5 hR
        have z6 := hu I5 _ (V (h + 1)) _ z5
        rw [hn] at z6
        exact k1 _ J _ _ f6 rfl z6 ⟨by omega, x5⟩ hR
      · simp only [if_neg cb] at z5 hR
        exact k1 _ J _ _ f6 rfl (hu I5 _ (V (h + 1)) _ z5) ⟨by omega, x5⟩ hR
    · rw [if_neg c3] at hR
      rw [← hR] at k0
      have kk := k0 (by simp) I' J (zF_e g f1)
      refine b194_13 ?_
      try simp only [w_Ug, reduceIte, Nat.reduceEqDiff, Int.reduceEq, eq_self, if_true]
      repeat' (first | apply And.intro | intro)
      all_goals (try first | omega | contradiction | exact Or.inl trivial | exact Or.inr trivial)
    · rw [if_pos c3] at hR
      unfold z_pa at hR
      rw [if_pos cc] at hR
      rw [← hR] at k0
      have kk := k0 (by simp) I' J (zF_e g f1)
      refine b194_13 ?_
      try simp only [w_Ug, reduceIte, Nat.reduceEqDiff, Int.reduceEq, eq_self, if_true]
      repeat' (first | apply And.intro | intro)
      all_goals (try first | omega | contradiction | exact Or.inl trivial | exact Or.inr trivial)
  · have kk := k0 r I' J f
    refine b194_4 ?_
    try simp only [w_Ug, reduceIte, Nat.reduceEqDiff, Int.reduceEq, eq_self, if_true]
    repeat' (first | apply And.intro | intro)
    all_goals (try first | omega | contradiction | exact Or.inl trivial | exact Or.inr trivial)
theorem s195 (hN : zN K V P N) (hT : zU I J K V P M N) (hz : zK I J P M h S) (hh : 0 ≤ h ∧ h ≤ N) (hk : 2 ≤ K h) {R : z_R} (hR : z_tb K h S = R)
    (k1 : ∀ (I' J' : w_I) (h' : Int) (S' : z_S), zFr I I' → J' 109 = J 109 → zK I' J' P M h' S' → 0 ≤ h' ∧ h' ≤ N → z_en K S' h' = R → Q (some (w_i 1)) I' J' b)
    (k0 : R.1 ≠ 0 → ∀ I' J', zF I I' R.1 (P R.2.1) → Q (some (w_i 0)) I' J' b) : w_C xs xl 195 [.ref 104] I J b Q := by
  have hNN := hN.1.2
  unfold z_tb at hR
  refine e195 (b195_0 (s177z hN hR hT hz hh hk (fun z1 x1 hR => ?_) (fun r I' f => ?_)))
  · have f1 : zFr I (w_U I 104 7 (h + 1)) := zfU zfr (pz4_V (by decide))
    have t1 : zU (w_U I 104 7 (h + 1)) J K V P M N := zU_f hT (w_Ua (by decide)) (w_Ua (by decide)) (w_Ua (by decide))
    have e7 : (w_U I 104 7 (h + 1)) 104 7 = h + 1 := by simp [w_Ug]
    generalize w_U I 104 7 (h + 1) = I1 at z1 f1 t1 e7
    have kb := hN.2.2.2.1 (h + 1) (by omega) x1
    have sw := fun (kk ch : Int) (Q' : Option Value → w_I → w_I → Bool → Prop) => s179 (xs := xs) (xl := xl) (b := b) (Q := Q') (c := ch) (kk := kk) t1 hNN e7 ⟨by omega, x1⟩ kb.1 kb.2.2.2
    -- the token is one of the two
    have two : ∀ v : Int, (v = 0 ∨ v = 1) → 2 ≤ K (h + 1) → z_pa (h + 1) S (z_en K (z_aby v S)) = R → w_C xs xl 190 [.ref 104, w_i 3, w_i v] I1 J b (fun v Ic Jc bc => w_T xs xl 195 52 [some (.ref 104)] [] (w_pv v []) Ic Jc bc Q) := by
      intro v hv hk2 r2
      have z2 : zK (w_U I1 110 703 v) J P M (h + 1) (z_aby v S) := zK_n z1 (by decide) rfl rfl rfl rfl rfl rfl rfl (by rw [if_neg (by decide)]; rfl) (by rw [if_neg (by decide)]; rfl) (by rw [if_pos (by decide)]; rfl)
      have f2 : zFr I (w_U I1 110 703 v) := zfU f1 (pz110_V (by decide))
      have t2 : zU (w_U I1 110 703 v) J K V P M N := zU_f t1 (w_Ua (by decide)) (w_Ua (by decide)) (w_Ua (by decide))
      refine s190 (e := 703) (by decide) (by decide) (b195_52 (s177z (S := z_aby v S) hN r2 t2 z2 ⟨by omega, x1⟩ hk2 (fun z3 x3 r3 => b195_56 ⟨Or.inr rfl, ?_⟩) (fun r I' g => b195_56 ⟨Or.inl rfl, k0 r I' J (zF_f g f2)⟩)))
      exact k1 _ J _ _ (zfU f2 (pz4_V (by decide))) rfl z3 ⟨by omega, x3⟩ r3
    unfold z_tb1 at hR
    refine b195_4 ?_
    try simp only [w_Ug, reduceIte, Nat.reduceEqDiff, Int.reduceEq, eq_self, if_true]
    repeat' (first | apply And.intro | intro)
    all_goals (try first | omega | contradiction | exact Or.inl trivial | exact Or.inr trivial)
    refine sw 26 6 _ rfl (by decide) (fun ck => ?_) (fun c26 => ?_)
    · rw [if_pos ck] at hR
      have tw := two 0 (Or.inl rfl) (by omega) hR
      refine b195_15 ?_
      try simp only [w_Ug, reduceIte, Nat.reduceEqDiff, Int.reduceEq, eq_self, if_true]
      repeat' (first | apply And.intro | intro)
      all_goals (try first | omega | contradiction | exact Or.inl trivial | exact Or.inr trivial)
      refine sw 27 7 _ rfl (by decide) (fun x => by omega) (fun _ => ?_)
      refine b195_41 ?_
      try simp only [w_Ug, reduceIte, Nat.reduceEqDiff, Int.reduceEq, eq_self, if_true]
      repeat' (first | apply And.intro | intro)
      all_goals (try first | omega | contradiction | exact Or.inl trivial | exact Or.inr trivial)
    · rw [if_neg c26] at hR
      refine b195_15 ?_
      try simp only [w_Ug, reduceIte, Nat.reduceEqDiff, Int.reduceEq, eq_self, if_true]
      repeat' (first | apply And.intro | intro)
      all_goals (try first | omega | contradiction | exact Or.inl trivial | exact Or.inr trivial)
      refine sw 27 7 _ rfl (by decide) (fun ck => ?_) (fun c27 => ?_)
      · rw [if_pos ck] at hR
        have tw := two 1 (Or.inr rfl) (by omega) hR
        refine b195_24 ?_
        try simp only [w_Ug, reduceIte, Nat.reduceEqDiff, Int.reduceEq, eq_self, if_true]
        repeat' (first | apply And.intro | intro)
        all_goals (try first | omega | contradiction | exact Or.inl trivial | exact Or.inr trivial)
        refine sw 27 7 _ rfl (by decide) (fun _ => ?_) (fun x => absurd ck x)
        refine b195_41 ?_
        try simp only [w_Ug, reduceIte, Nat.reduceEqDiff, Int.reduceEq, eq_self, if_true]
        repeat' (first | apply And.intro | intro)
        all_goals (try first | omega | contradiction | exact Or.inl trivial | exact Or.inr trivial)
      · rw [if_neg c27] at hR
        rw [← hR] at k0
        have fin : w_C xs xl 175 [.ref 104, w_i 1] I1 J b (fun v Ic Jc bc => w_T xs xl 195 32 [some (.ref 104)] [] (w_pv v []) Ic Jc bc Q) := s175 t1 hNN e7 ⟨by omega, x1⟩ (fun I' f => b195_32 ⟨Or.inl rfl, k0 (by simp) I' J (zF_e f f1)⟩)
        refine b195_24 ?_
        try simp only [w_Ug, reduceIte, Nat.reduceEqDiff, Int.reduceEq, eq_self, if_true]
        repeat' (first | apply And.intro | intro)
        all_goals (try first | omega | contradiction | exact Or.inl trivial | exact Or.inr trivial)
  · have kk := k0 r I' J f
    refine b195_4 ?_
    try simp only [w_Ug, reduceIte, Nat.reduceEqDiff, Int.reduceEq, eq_self, if_true]
    repeat' (first | apply And.intro | intro)
    all_goals (try first | omega | contradiction | exact Or.inl trivial | exact Or.inr trivial)
theorem p28_V {c : Int} (hc : 0 ≤ c) {I I' : w_I} (f : w_fr (p28 c) I I') : zFr I I' := pzY_r (p28_Y hc f)
theorem s196 (hN : zN K V P N) (hT : zU I J K V P M N) (hz : zK I J P M h S) (hq : zQ K h S) (hh : 0 ≤ h ∧ h ≤ N) (hk : 2 ≤ K h) {w : Int} (hw : 0 ≤ w ∧ w < 4) {R : z_R} (hR : z_tl K V w h S = R)
    (k1 : ∀ (I' J' : w_I) (h' : Int) (S' : z_S), zFr I I' → J' 109 = J 109 → zK I' J' P M h' S' → 0 ≤ h' ∧ h' ≤ N → z_en K S' h' = R → Q (some (w_i 1)) I' J' b)
    (k0 : R.1 ≠ 0 → ∀ I' J', zF I I' R.1 (P R.2.1) → Q (some (w_i 0)) I' J' b) : w_C xs xl 196 [.ref 104, w_i w] I J b Q := by
  have hNN := hN.1.2
  obtain ⟨l1, l2, l3, l4⟩ := hq.1
  unfold z_tl at hR
  refine e196 (b196_0 (s177z hN hR hT hz hh hk (fun z1 x1 hR => ?_) (fun r I' f => ?_)))
  · have f1 : zFr I (w_U I 104 7 (h + 1)) := zfU zfr (pz4_V (by decide))
    have t1 : zU (w_U I 104 7 (h + 1)) J K V P M N := zU_f hT (w_Ua (by decide)) (w_Ua (by decide)) (w_Ua (by decide))
    have e7 : (w_U I 104 7 (h + 1)) 104 7 = h + 1 := by simp [w_Ug]
    generalize w_U I 104 7 (h + 1) = I1 at z1 f1 t1 e7
    have kb := hN.2.2.2.1 (h + 1) (by omega) x1
    refine b196_4 ?_
    try simp only [w_Ug, reduceIte, Nat.reduceEqDiff, Int.reduceEq, eq_self, if_true]
    repeat' (first | apply And.intro | intro)
    all_goals (try first | omega | contradiction | exact Or.inl trivial | exact Or.inr trivial)
    unfold z_wa at hR
    refine s178 t1 hNN e7 ⟨by omega, x1⟩ kb.1 (kk := 5) (c := 61) rfl (by decide) (fun ck => ?_) (fun c5 => ?_)
    · rw [if_pos ck] at hR
      refine b196_15 ?_
      try simp only [w_Ug, reduceIte, Nat.reduceEqDiff, Int.reduceEq, eq_self, if_true]
      repeat' (first | apply And.intro | intro)
      all_goals (try first | omega | contradiction | exact Or.inl trivial | exact Or.inr trivial)
      refine s177z hN hR t1 z1 ⟨by omega, x1⟩ (by omega) (fun z2 x2 hR => ?_) (fun r I' f => ?_)
      · have f2 : zFr I (w_U I1 104 7 (h + 1 + 1)) := zfU f1 (pz4_V (by decide))
        have t2 : zU (w_U I1 104 7 (h + 1 + 1)) J K V P M N := zU_f t1 (w_Ua (by decide)) (w_Ua (by decide)) (w_Ua (by decide))
        generalize w_U I1 104 7 (h + 1 + 1) = I2 at z2 f2 t2
        have e7 := z2.1.1
        have hc := z2.2.2.2.2.2.1
        have hx := z_ex_k (V := V) hN (h := h + 1 + 1) ⟨by omega, x2⟩
        refine b196_28 ?_
        try simp only [w_Ug, reduceIte, Nat.reduceEqDiff, Int.reduceEq, eq_self, if_true]
        repeat' (first | apply And.intro | intro)
        all_goals (try first | omega | contradiction | exact Or.inl trivial | exact Or.inr trivial)
        refine s187 hN t2 (h := h + 1 + 1) (c := I2 111 1) e7 ⟨by omega, x2⟩ rfl hc.1 ?_ ?_
        all_goals generalize z_ex K V (401 - (h + 1 + 1)).toNat (h + 1 + 1) 1 0 [] [] = E at hR hx
        all_goals unfold z_tl2 at hR
        all_goals obtain ⟨y1, y2, y3, y4⟩ := hx
        · intro e0 I3 f3 d7 d28 d111 dro
          obtain ⟨w1, w2, w3⟩ := y1 e0
          rw [if_neg (fun x => x e0)] at hR
          have d114 : I3 114 = I2 114 := p28_a f3 (by decide) (by decide) (by decide) (by decide) (by decide)
          have z3 : zK I3 J P M E.2.1 S := zK_x z2 rfl rfl (p28_88 (Int.le_refl _) f3) d7 (by omega) (by rw [d114]; omega)
          have z4 := zK_l (w := w) (e := I3 111 1) z3 hw ⟨hc.1.1, d111, Int.le_refl _⟩ dro l3 (by omega)
          have f4 : zFr I (w_U (w_U I3 110 (700 + (11 + 2 * w)) (I2 111 1)) 110 (700 + (11 + 2 * w + 1)) (I3 111 1)) := zfU (zfU (zft f2 (p28_V hc.1.1 f3)) (pz110_V (by omega))) (pz110_V (by omega))
          refine b196_35 ?_
          try simp only [w_Ug, reduceIte, Nat.reduceEqDiff, Int.reduceEq, eq_self, d28]
          repeat' (first | apply And.intro | intro)
          all_goals (try first | omega | contradiction | exact Or.inl trivial | exact Or.inr trivial)
          refine s190 rfl (by omega) (b196_54 ?_)
          rw [w_Ua (show (111 : Nat) ≠ 110 by decide)]
          refine s190 rfl (by omega) (b196_72 ?_)
          exact k1 _ J _ _ f4 rfl z4 ⟨y3, y2⟩ hR
        · intro e0 I' g
          rw [if_pos e0] at hR
          rw [← hR] at k0
          have kk := k0 e0 I' J (zF_e g f2)
          refine b196_35 ?_
          try simp only [w_Ug, reduceIte, Nat.reduceEqDiff, Int.reduceEq, eq_self, if_true]
          repeat' (first | apply And.intro | intro)
          all_goals (try first | omega | contradiction | exact Or.inl trivial | exact Or.inr trivial)
      · have kk := k0 r I' J (zF_f f f1)
        refine b196_28 ?_
        try simp only [w_Ug, reduceIte, Nat.reduceEqDiff, Int.reduceEq, eq_self, if_true]
        repeat' (first | apply And.intro | intro)
        all_goals (try first | omega | contradiction | exact Or.inl trivial | exact Or.inr trivial)
    · rw [if_neg c5] at hR
      rw [← hR] at k0
      have fin : w_C xs xl 175 [.ref 104, w_i 1] I1 J b (fun v Ic Jc bc => w_T xs xl 196 23 [some (.ref 104), some (w_i w)] [] (w_pv v []) Ic Jc bc Q) := s175 t1 hNN e7 ⟨by omega, x1⟩ (fun I' f => b196_23 ⟨Or.inl rfl, k0 (by simp) I' J (zF_e f f1)⟩)
      refine b196_15 ?_
      try simp only [w_Ug, reduceIte, Nat.reduceEqDiff, Int.reduceEq, eq_self, if_true]
      repeat' (first | apply And.intro | intro)
      all_goals (try first | omega | contradiction | exact Or.inl trivial | exact Or.inr trivial)
  · have kk := k0 r I' J f
    refine b196_4 ?_
    try simp only [w_Ug, reduceIte, Nat.reduceEqDiff, Int.reduceEq, eq_self, if_true]
    repeat' (first | apply And.intro | intro)
    all_goals (try first | omega | contradiction | exact Or.inl trivial | exact Or.inr trivial)
theorem s197 (hN : zN K V P N) (hT : zU I J K V P M N) (hz : zK I J P M h S) (hq : zQ K h S) (hh : 0 ≤ h ∧ h ≤ N) (hk : 2 ≤ K h) {R : z_R} (hR : z_tru K V h S = R)
    (k1 : ∀ (I' J' : w_I) (h' : Int) (S' : z_S), zFr I I' → J' 109 = J 109 → zK I' J' P M h' S' → 0 ≤ h' ∧ h' ≤ N → z_en K S' h' = R → Q (some (w_i 1)) I' J' b)
    (k0 : R.1 ≠ 0 → ∀ I' J', zF I I' R.1 (P R.2.1) → Q (some (w_i 0)) I' J' b) : w_C xs xl 197 [.ref 104] I J b Q := by
  have hNN := hN.1.2
  obtain ⟨l1, l2, l3, l4⟩ := hq.1
  have e74 := hz.2.2.2.1.2.2.2
  unfold z_tru at hR
  generalize hr : ((q_ru S).length : Int) = r at e74
  refine e197 (b197_0 (s189 (e := 704) (by decide) (by decide) e74 ?_))
  by_cases c6 : (q_ru S).length = 6
  · rw [if_pos c6] at hR
    rw [← hR] at k0
    have r6 : r = 6 := by omega
    subst r6
    have fin : w_C xs xl 175 [.ref 104, w_i 2] I J b (fun v Ic Jc bc => w_T xs xl 197 17 [some (.ref 104), some (w_i 6)] [] (w_pv v []) Ic Jc bc Q) := s175 hT hNN hz.1.1 hh (fun I' f => b197_17 ⟨Or.inl rfl, k0 (by simp) I' J (zF_e f zfr)⟩)
    refine b197_5 ?_
    try simp only [w_Ug, reduceIte, Nat.reduceEqDiff, Int.reduceEq, eq_self, if_true]
    repeat' (first | apply And.intro | intro)
    all_goals (try first | omega | contradiction | exact Or.inl trivial | exact Or.inr trivial)
  · rw [if_neg c6] at hR
    refine b197_5 ?_
    try simp only [w_Ug, reduceIte, Nat.reduceEqDiff, Int.reduceEq, eq_self, if_true]
    repeat' (first | apply And.intro | intro)
    all_goals (try first | omega | contradiction | exact Or.inl trivial | exact Or.inr trivial)
    refine s177z hN hR hT hz hh hk (fun z1 x1 hR => ?_) (fun r I' f => ?_)
    · have f1 : zFr I (w_U I 104 7 (h + 1)) := zfU zfr (pz4_V (by decide))
      have t1 : zU (w_U I 104 7 (h + 1)) J K V P M N := zU_f hT (w_Ua (by decide)) (w_Ua (by decide)) (w_Ua (by decide))
      have e7 : (w_U I 104 7 (h + 1)) 104 7 = h + 1 := by simp [w_Ug]
      generalize w_U I 104 7 (h + 1) = I1 at z1 f1 t1 e7
      have kb := hN.2.2.2.1 (h + 1) (by omega) x1
      refine b197_22 ?_
      try simp only [w_Ug, reduceIte, Nat.reduceEqDiff, Int.reduceEq, eq_self, if_true]
      repeat' (first | apply And.intro | intro)
      all_goals (try first | omega | contradiction | exact Or.inl trivial | exact Or.inr trivial)
      unfold z_wa at hR
      refine s179 t1 hNN e7 ⟨by omega, x1⟩ kb.1 kb.2.2.2 (kk := 33) (c := 8) rfl (by decide) (fun ck => ?_) (fun c5 => ?_)
      · rw [if_pos ck] at hR
        refine b197_33 ?_
        try simp only [w_Ug, reduceIte, Nat.reduceEqDiff, Int.reduceEq, eq_self, if_true]
        repeat' (first | apply And.intro | intro)
        all_goals (try first | omega | contradiction | exact Or.inl trivial | exact Or.inr trivial)
        refine s177z hN hR t1 z1 ⟨by omega, x1⟩ (by omega) (fun z2 x2 hR => ?_) (fun r I' f => ?_)
        · have f2 : zFr I (w_U I1 104 7 (h + 1 + 1)) := zfU f1 (pz4_V (by decide))
          have t2 : zU (w_U I1 104 7 (h + 1 + 1)) J K V P M N := zU_f t1 (w_Ua (by decide)) (w_Ua (by decide)) (w_Ua (by decide))
          generalize w_U I1 104 7 (h + 1 + 1) = I2 at z2 f2 t2
          have e7 := z2.1.1
          have hc := z2.2.2.2.2.2.1
          have hx := z_co_ok (V := V) hN (401 - (h + 1 + 1)).toNat (h + 1 + 1) 0 (by omega) x2 (Or.inl rfl)
          refine b197_46 ?_
          try simp only [w_Ug, reduceIte, Nat.reduceEqDiff, Int.reduceEq, eq_self, if_true]
          repeat' (first | apply And.intro | intro)
          all_goals (try first | omega | contradiction | exact Or.inl trivial | exact Or.inr trivial)
          refine s188 hN t2 (h := h + 1 + 1) (c := I2 111 1) (q := I2 114 1) e7 ⟨by omega, x2⟩ rfl hc.1 rfl hc.2 rfl ?_ ?_
          all_goals generalize z_co K V (401 - (h + 1 + 1)).toNat (h + 1 + 1) 0 = E at hR hx
          all_goals unfold z_tru2 at hR
          all_goals obtain ⟨y1, y2, y3, y4⟩ := hx
          · intro e0 I3 f3 d7 d29 d114 d111 dls
            obtain ⟨w1, w2, w3, w4, w5⟩ := y1 e0
            rw [if_neg (fun x => x e0)] at hR
            have z3 : zK I3 J P M E.2.1 S := zK_x z2 rfl rfl f3.1 d7 d111 (by omega)
            have z4 := zK_r (r := r) (q0 := I2 114 1) (e := I3 114 1) z3 ⟨hr, by omega⟩ ⟨hc.2.1, d114, Int.le_refl _⟩ dls l3 (by omega)
            have f4 : zFr I (w_U (w_U (w_U I3 110 (700 + (80 + 2 * r)) (I2 114 1)) 110 (700 + (80 + 2 * r + 1)) (I3 114 1)) 110 704 (r + 1)) := zfU (zfU (zfU (zft f2 (z88_V hc.1.1 hc.2.1 f3)) (pz110_V (by omega))) (pz110_V (by omega))) (pz110_V (by decide))
            refine b197_53 ?_
            try simp only [w_Ug, reduceIte, Nat.reduceEqDiff, Int.reduceEq, eq_self, d29]
            repeat' (first | apply And.intro | intro)
            all_goals (try first | omega | contradiction | exact Or.inl trivial | exact Or.inr trivial)
            refine s190 rfl (by omega) (b197_72 ?_)
            rw [w_Ua (show (114 : Nat) ≠ 110 by decide)]
            refine s190 rfl (by omega) (b197_90 (s190 (e := 704) (by decide) (by decide) (b197_98 ?_)))
            exact k1 _ J _ _ f4 rfl z4 ⟨y3, y2⟩ hR
          · intro e0 I' g
            rw [if_pos e0] at hR
            rw [← hR] at k0
            have kk := k0 e0 I' J (zF_f g f2)
            refine b197_53 ?_
            try simp only [w_Ug, reduceIte, Nat.reduceEqDiff, Int.reduceEq, eq_self, if_true]
            repeat' (first | apply And.intro | intro)
            all_goals (try first | omega | contradiction | exact Or.inl trivial | exact Or.inr trivial)
        · have kk := k0 r I' J (zF_f f f1)
          refine b197_46 ?_
          try simp only [w_Ug, reduceIte, Nat.reduceEqDiff, Int.reduceEq, eq_self, if_true]
          repeat' (first | apply And.intro | intro)
          all_goals (try first | omega | contradiction | exact Or.inl trivial | exact Or.inr trivial)
      · rw [if_neg c5] at hR
        rw [← hR] at k0
        have fin : w_C xs xl 175 [.ref 104, w_i 1] I1 J b (fun v Ic Jc bc => w_T xs xl 197 41 [some (.ref 104), some (w_i r)] [] (w_pv v []) Ic Jc bc Q) := s175 t1 hNN e7 ⟨by omega, x1⟩ (fun I' f => b197_41 ⟨Or.inl rfl, k0 (by simp) I' J (zF_e f f1)⟩)
        refine b197_33 ?_
        try simp only [w_Ug, reduceIte, Nat.reduceEqDiff, Int.reduceEq, eq_self, if_true]
        repeat' (first | apply And.intro | intro)
        all_goals (try first | omega | contradiction | exact Or.inl trivial | exact Or.inr trivial)
    · have kk := k0 r I' J f
      refine b197_22 ?_
      try simp only [w_Ug, reduceIte, Nat.reduceEqDiff, Int.reduceEq, eq_self, if_true]
      repeat' (first | apply And.intro | intro)
      all_goals (try first | omega | contradiction | exact Or.inl trivial | exact Or.inr trivial)
theorem s198 (hN : zN K V P N) (hM : ∀ i, 0 ≤ i → i ≤ N → K i = 2 → w_inl (M i)) (hT : zU I J K V P M N) (hz : zK I J P M h S) (hq : zQ K h S) (hh : 0 ≤ h ∧ h ≤ N) {R : z_R} (hR : z_pt K V M h S = R)
    (k1 : ∀ (I' J' : w_I) (h' : Int) (S' : z_S), zFr I I' → J' 109 = J 109 → zK I' J' P M h' S' → 0 ≤ h' ∧ h' ≤ N → z_en K S' h' = R → Q (some (w_i 1)) I' J' b)
    (k0 : R.1 ≠ 0 → ∀ I' J', zF I I' R.1 (P R.2.1) → Q (some (w_i 0)) I' J' b) : w_C xs xl 198 [.ref 104] I J b Q := by
  have hNN := hN.1.2
  obtain ⟨e7, e8⟩ := hz.1
  obtain ⟨t1, t2, t3, t4, t5⟩ := hT h hh.1 hh.2
  have kb := hN.2.2.2.1 h hh.1 hh.2
  have sb := zS_b kb.1
  unfold z_pt at hR
  have bad : ∀ (u : Int), ((1, h, S) : z_R) = R → w_C xs xl 175 [.ref 104, w_i 1] I J b (fun v Ic Jc bc => w_T xs xl 198 123 [some (.ref 104), some (w_i u)] [] (w_pv v []) Ic Jc bc Q) := by
    intro u e
    rw [← e] at k0
    exact s175 hT hNN e7 hh (fun I' f => b198_123 ⟨Or.inl rfl, k0 (by simp) I' J (zF_e f zfr)⟩)
  refine e198 ?_
  by_cases c20 : 20 ≤ K h
  · have s3 : I 106 h = 3 := by rw [t1]; exact sb.2.2.2.1.mpr (by omega)
    have t4 := t4 (by omega)
    have w20 := zW_20 c20
    have kbk := kb.1
    by_cases d1 : K h = 20
    · rw [if_pos d1] at hR
      have w : I 108 h = 0 := by rw [t4, d1]; rfl
      have q := s193 (xs := xs) (xl := xl) (Q := fun v Ic Jc bc => w_T xs xl 198 35 [some (.ref 104), some (w_i 0)] [] (w_pv v []) Ic Jc bc Q) hN hM hT hz hq hh d1 hR (fun I' J' h' S' a1 a2 a3 a4 a5 => b198_35 ⟨Or.inr rfl, k1 I' J' h' S' a1 a2 a3 a4 a5⟩) (fun r I' J' f => b198_35 ⟨Or.inl rfl, k0 r I' J' f⟩)
      refine b198_0 ?_
      try simp only [w_Ug, reduceIte, Nat.reduceEqDiff, Int.reduceEq, eq_self, e7, s3, w]
      repeat' (first | apply And.intro | intro)
      all_goals (try first | omega | contradiction | exact Or.inl trivial | exact Or.inr trivial)
    · rw [if_neg d1] at hR
      by_cases d2 : K h = 23
      · rw [if_pos d2] at hR
        have w : I 108 h = 3 := by rw [t4, d2]; rfl
        have q := s194 (xs := xs) (xl := xl) (w := 1) (hi := 20) (up := z_ast) (Q := fun v Ic Jc bc => w_T xs xl 198 48 [some (.ref 104), some (w_i 3)] [] (w_pv v []) Ic Jc bc Q) hN hT hz hq hh (by omega) (by decide) (by decide) hR (fun I' h' v U zz => zK_n zz (by decide) rfl rfl rfl rfl rfl rfl rfl (by rw [if_pos (by decide)]; rfl) (by rw [if_neg (by decide)]; rfl) (by rw [if_neg (by decide)]; rfl)) (fun v i U => z_ast_nl) (fun I' J' h' S' a1 a2 a3 a4 a5 => b198_48 ⟨Or.inr rfl, k1 I' J' h' S' a1 a2 a3 a4 a5⟩) (fun r I' J' f => b198_48 ⟨Or.inl rfl, k0 r I' J' f⟩)
        refine b198_0 ?_
        try simp only [w_Ug, reduceIte, Nat.reduceEqDiff, Int.reduceEq, eq_self, e7, s3, w]
        repeat' (first | apply And.intro | intro)
        all_goals (try first | omega | contradiction | exact Or.inl trivial | exact Or.inr trivial)
      · rw [if_neg d2] at hR
        by_cases d3 : K h = 24
        · rw [if_pos d3] at hR
          have w : I 108 h = 4 := by rw [t4, d3]; rfl
          have q := s194 (xs := xs) (xl := xl) (w := 2) (hi := 9) (up := z_ala) (Q := fun v Ic Jc bc => w_T xs xl 198 61 [some (.ref 104), some (w_i 4)] [] (w_pv v []) Ic Jc bc Q) hN hT hz hq hh (by omega) (by decide) (by decide) hR (fun I' h' v U zz => zK_n zz (by decide) rfl rfl rfl rfl rfl rfl rfl (by rw [if_neg (by decide)]; rfl) (by rw [if_pos (by decide)]; rfl) (by rw [if_neg (by decide)]; rfl)) (fun v i U => z_ala_nl) (fun I' J' h' S' a1 a2 a3 a4 a5 => b198_61 ⟨Or.inr rfl, k1 I' J' h' S' a1 a2 a3 a4 a5⟩) (fun r I' J' f => b198_61 ⟨Or.inl rfl, k0 r I' J' f⟩)
          refine b198_0 ?_
          try simp only [w_Ug, reduceIte, Nat.reduceEqDiff, Int.reduceEq, eq_self, e7, s3, w]
          repeat' (first | apply And.intro | intro)
          all_goals (try first | omega | contradiction | exact Or.inl trivial | exact Or.inr trivial)
        · rw [if_neg d3] at hR
          by_cases d4 : K h = 25
          · rw [if_pos d4] at hR
            have w : I 108 h = 5 := by rw [t4, d4]; rfl
            have q := s195 (xs := xs) (xl := xl) (Q := fun v Ic Jc bc => w_T xs xl 198 71 [some (.ref 104), some (w_i 5)] [] (w_pv v []) Ic Jc bc Q) hN hT hz hh (by omega) hR (fun I' J' h' S' a1 a2 a3 a4 a5 => b198_71 ⟨Or.inr rfl, k1 I' J' h' S' a1 a2 a3 a4 a5⟩) (fun r I' J' f => b198_71 ⟨Or.inl rfl, k0 r I' J' f⟩)
            refine b198_0 ?_
            try simp only [w_Ug, reduceIte, Nat.reduceEqDiff, Int.reduceEq, eq_self, e7, s3, w]
            repeat' (first | apply And.intro | intro)
            all_goals (try first | omega | contradiction | exact Or.inl trivial | exact Or.inr trivial)
          · rw [if_neg d4] at hR
            by_cases d5 : 28 ≤ K h ∧ K h ≤ 31
            · rw [if_pos d5] at hR
              by_cases d6 : K h = 28
              · have w : I 108 h = 9 := by rw [t4, d6]; rfl
                rw [show K h - 28 = 0 by omega] at hR
                have q := s196 (xs := xs) (xl := xl) (w := 0) (Q := fun v Ic Jc bc => w_T xs xl 198 83 [some (.ref 104), some (w_i 9)] [] (w_pv v []) Ic Jc bc Q) hN hT hz hq hh (by omega) (by decide) hR (fun I' J' h' S' a1 a2 a3 a4 a5 => b198_83 ⟨Or.inr rfl, k1 I' J' h' S' a1 a2 a3 a4 a5⟩) (fun r I' J' f => b198_83 ⟨Or.inl rfl, k0 r I' J' f⟩)
                refine b198_0 ?_
                try simp only [w_Ug, reduceIte, Nat.reduceEqDiff, Int.reduceEq, eq_self, e7, s3, w]
                repeat' (first | apply And.intro | intro)
                all_goals (try first | omega | contradiction | exact Or.inl trivial | exact Or.inr trivial)
              · have w : I 108 h = K h + 1 := by
                  rw [t4, w20, if_neg (by omega), if_neg d6, if_pos (by omega)]
                have ew : K h + 1 - 29 = K h - 28 := by omega
                have q := s196 (xs := xs) (xl := xl) (w := K h - 28) (Q := fun v Ic Jc bc => w_T xs xl 198 104 [some (.ref 104), some (w_i (K h + 1))] [] (w_pv v []) Ic Jc bc Q) hN hT hz hq hh (by omega) (by omega) hR (fun I' J' h' S' a1 a2 a3 a4 a5 => b198_104 ⟨Or.inr rfl, k1 I' J' h' S' a1 a2 a3 a4 a5⟩) (fun r I' J' f => b198_104 ⟨Or.inl rfl, k0 r I' J' f⟩)
                refine b198_0 ?_
                try simp only [w_Ug, reduceIte, Nat.reduceEqDiff, Int.reduceEq, eq_self, e7, s3, w, ew]
                repeat' (first | apply And.intro | intro)
                all_goals (try first | omega | contradiction | exact Or.inl trivial | exact Or.inr trivial)
            · rw [if_neg d5] at hR
              by_cases d6 : K h = 32
              · rw [if_pos d6] at hR
                have w : I 108 h = 33 := by rw [t4, d6]; rfl
                have q := s197 (xs := xs) (xl := xl) (Q := fun v Ic Jc bc => w_T xs xl 198 115 [some (.ref 104), some (w_i 33)] [] (w_pv v []) Ic Jc bc Q) hN hT hz hq hh (by omega) hR (fun I' J' h' S' a1 a2 a3 a4 a5 => b198_115 ⟨Or.inr rfl, k1 I' J' h' S' a1 a2 a3 a4 a5⟩) (fun r I' J' f => b198_115 ⟨Or.inl rfl, k0 r I' J' f⟩)
                refine b198_0 ?_
                try simp only [w_Ug, reduceIte, Nat.reduceEqDiff, Int.reduceEq, eq_self, e7, s3, w]
                repeat' (first | apply And.intro | intro)
                all_goals (try first | omega | contradiction | exact Or.inl trivial | exact Or.inr trivial)
              · rw [if_neg d6] at hR
                have w : I 108 h = zW (K h) := t4
                have wn : zW (K h) ≠ 0 ∧ zW (K h) ≠ 3 ∧ zW (K h) ≠ 4 ∧ zW (K h) ≠ 5 ∧ zW (K h) ≠ 9 ∧ zW (K h) < 30 := by
                  rw [w20]
                  repeat' split
                  all_goals omega
                have wb := zW_b (k := K h) (by omega)
                have q := bad (zW (K h)) hR
                generalize zW (K h) = x at w wn wb q
                refine b198_0 ?_
                try simp only [w_Ug, reduceIte, Nat.reduceEqDiff, Int.reduceEq, eq_self, e7, s3, w]
                repeat' (first | apply And.intro | intro)
                all_goals (try first | omega | contradiction | exact Or.inl trivial | exact Or.inr trivial)
  · have s3 : I 106 h ≠ 3 := by
      rw [t1]
      intro x
      have := sb.2.2.2.1.mp x
      omega
    have s5 : 0 ≤ I 106 h ∧ I 106 h ≤ 5 := by rw [t1]; exact sb.2.2.2.2.2
    rw [if_neg (by omega), if_neg (by omega), if_neg (by omega), if_neg (by omega), if_neg (by omega), if_neg (by omega)] at hR
    have q := bad (-1) hR
    refine b198_0 ?_
    try simp only [w_Ug, reduceIte, Nat.reduceEqDiff, Int.reduceEq, eq_self, e7]
    repeat' (first | apply And.intro | intro)
    all_goals (try first | omega | contradiction | exact Or.inl trivial | exact Or.inr trivial)
theorem s199 (hN : zN K V P N) (hM : ∀ i, 0 ≤ i → i ≤ N → K i = 2 → w_inl (M i)) (hT : zU I J K V P M N) (hz : zK (w_U I 104 7 0) J P M 0 z_S0) {R : z_R} (hR : z_all K V M 401 0 z_S0 = R)
    (k1 : R.1 = 0 → ∀ (I' J' : w_I), zFr I I' → zK I' J' P M R.2.1 R.2.2 → Q (some (w_i 1)) I' J' b)
    (k0 : R.1 ≠ 0 → ∀ I' J', zF I I' R.1 (P R.2.1) → Q (some (w_i 0)) I' J' b) : w_C xs xl 199 [.ref 104] I J b Q := by
  have hNN := hN.1.2
  refine e199 (b199_0 ?_)
  have q0 : zQ K 0 z_S0 := ⟨⟨rfl, rfl, by decide, by decide⟩, fun t ht => (by cases ht), fun x => absurd rfl x⟩
  have v0 : zV2 z_S0 := ⟨Or.inl rfl, fun x hx => (by cases hx), fun x hx => (by cases hx), ⟨by decide, fun _ => by decide⟩, ⟨by decide, fun _ => by decide⟩, Or.inl rfl, fun w C e => (by cases e), fun L hL => (by cases hL)⟩
  have f0 : zFr I (w_U I 104 7 0) := zfU zfr (pz4_V (by decide))
  have loop : ∀ (m : Nat) (h : Int) (S : z_S) (I1 J1 : w_I), 401 ≤ (m : Int) + h → 0 ≤ h → h ≤ N → zQ K h S → zV2 S → zK I1 J1 P M h S → zFr I I1 → J1 109 = J 109 → z_all K V M m h S = R → w_T xs xl 199 5 [some (.ref 104)] [] [] I1 J1 b Q := by
    intro m
    induction m with
    | zero =>
      intro h S I1 J1 a0 a1 a2
      omega
    | succ m ih =>
      intro h S I1 J1 a0 a1 a2 a3 a4 a5 a6 a7 a8
      have hT1 : zU I1 J1 K V P M N := fun i x y => by
        rw [a7]
        have := zU_f hT (I' := I1) (w_frA a6.1 (fun _ => rfl)) (w_frA a6.1 (fun _ => rfl)) (w_frA a6.1 (fun _ => rfl))
        exact this i x y
      obtain ⟨p1, p2, p3, p4⟩ := z_pt_ok (M := M) hN ⟨a1, a2⟩ a3 a4
      have e7 := a5.1.1
      obtain ⟨t1, -⟩ := hT1 h a1 a2
      have kb := hN.2.2.2.1 h a1 a2
      have sb := zS_b kb.1
      have sbb := sb.2.2.2.2.2
      unfold z_all at a8
      by_cases c : K h = 0
      · rw [if_pos c] at a8
        rw [← a8] at k1
        have s4 : zS (K h) = 4 := sb.2.2.2.2.1.mpr c
        rw [s4] at t1
        have kk := k1 rfl I1 J1 a6 a5
        refine b199_5 ?_
        try simp only [w_Ug, reduceIte, Nat.reduceEqDiff, Int.reduceEq, eq_self, e7, t1]
        repeat' (first | apply And.intro | intro)
        all_goals (try first | omega | contradiction | exact Or.inl trivial | exact Or.inr trivial)
      · rw [if_neg c] at a8
        have s4 : zS (K h) ≠ 4 := fun x => c (sb.2.2.2.2.1.mp x)
        refine b199_5 ?_
        try simp only [w_Ug, reduceIte, Nat.reduceEqDiff, Int.reduceEq, eq_self, e7, t1]
        repeat' (first | apply And.intro | intro)
        all_goals (try first | omega | contradiction | exact Or.inl trivial | exact Or.inr trivial)
        generalize hT' : z_pt K V M h S = T at p1 p2 p3 p4 a8
        refine s198 hN hM hT1 a5 a3 ⟨a1, a2⟩ hT' (fun I2 J2 h' S' f2 j2 z2 y2 r2 => ?_) (fun t0 I2 J2 g => ?_)
        · have a6' := zft a6 f2
          have j2' := j2.trans a7
          have hT2 : zU I2 J2 K V P M N := fun i x y => by
            rw [j2']
            have := zU_f hT (I' := I2) (w_frA a6'.1 (fun _ => rfl)) (w_frA a6'.1 (fun _ => rfl)) (w_frA a6'.1 (fun _ => rfl))
            exact this i x y
          have d7 := z2.1.1
          have kb2 := hN.2.2.2.1 h' y2.1 y2.2
          refine b199_22 ?_
          try simp only [w_Ug, reduceIte, Nat.reduceEqDiff, Int.reduceEq, eq_self, if_true]
          repeat' (first | apply And.intro | intro)
          all_goals (try first | omega | contradiction | exact Or.inl trivial | exact Or.inr trivial)
          unfold z_en z_wa at r2
          refine s178 hT2 hNN d7 y2 kb2.1 (kk := 4) (c := 59) rfl (by decide) (fun ck => ?_) (fun c4 => ?_)
          · rw [if_pos ck] at r2
            refine b199_33 ?_
            try simp only [w_Ug, reduceIte, Nat.reduceEqDiff, Int.reduceEq, eq_self, if_true]
            repeat' (first | apply And.intro | intro)
            all_goals (try first | omega | contradiction | exact Or.inl trivial | exact Or.inr trivial)
            refine s177z (S := S') hN r2 hT2 z2 y2 (by omega) (fun z3 x3 r3 => ?_) (fun r I' f => ?_)
            · rw [← r3] at p1 p2 p3 p4 a8
              obtain ⟨q1, q2, q3⟩ := p1 rfl
              rw [if_neg (fun x => x rfl)] at a8
              have nx := ih (h' + 1) S' _ J2 (by have q3 : h + 1 ≤ h' + 1 := q3; omega) (by omega) x3 q1 q2 z3 (zfU a6' (pz4_V (by decide))) j2' a8
              refine b199_46 ?_
              try simp only [w_Ug, reduceIte, Nat.reduceEqDiff, Int.reduceEq, eq_self, if_true]
              repeat' (first | apply And.intro | intro)
              all_goals (try first | omega | contradiction | exact Or.inl trivial | exact Or.inr trivial)
            · rw [if_pos r] at a8
              rw [← a8] at k0
              have kk := k0 r I' J2 (zF_f f a6')
              refine b199_46 ?_
              try simp only [w_Ug, reduceIte, Nat.reduceEqDiff, Int.reduceEq, eq_self, if_true]
              repeat' (first | apply And.intro | intro)
              all_goals (try first | omega | contradiction | exact Or.inl trivial | exact Or.inr trivial)
          · rw [if_neg c4] at r2
            rw [← r2, if_pos (by simp)] at a8
            rw [← a8] at k0
            have fin : w_C xs xl 175 [.ref 104, w_i 1] I2 J2 b (fun v Ic Jc bc => w_T xs xl 199 41 [some (.ref 104)] [] (w_pv v []) Ic Jc bc Q) := s175 hT2 hNN d7 y2 (fun I' f => b199_41 ⟨Or.inl rfl, k0 (by simp) I' J2 (zF_e f a6')⟩)
            refine b199_33 ?_
            try simp only [w_Ug, reduceIte, Nat.reduceEqDiff, Int.reduceEq, eq_self, if_true]
            repeat' (first | apply And.intro | intro)
            all_goals (try first | omega | contradiction | exact Or.inl trivial | exact Or.inr trivial)
        · rw [if_pos t0] at a8
          rw [← a8] at k0
          have kk := k0 t0 I2 J2 (zF_f g a6)
          refine b199_22 ?_
          try simp only [w_Ug, reduceIte, Nat.reduceEqDiff, Int.reduceEq, eq_self, if_true]
          repeat' (first | apply And.intro | intro)
          all_goals (try first | omega | contradiction | exact Or.inl trivial | exact Or.inr trivial)
  exact loop 401 0 z_S0 _ J (by decide) (by decide) hN.1.1 q0 v0 hz f0 rfl hR
def p91 (i : Int) (a : Nat) (k : Int) : Bool := (a == 110 && decide (700 * i ≤ k ∧ k < 700 * i + 700)) || ((a == 111 || a == 114) && k == i)
theorem p91_1 {i k : Int} (h : 700 * i ≤ k ∧ k < 700 * i + 700) : p91 i 110 k = true := by
  unfold p91
  rw [decide_eq_true h]
  rfl
theorem s191 {i : Int} (hi : 0 ≤ i ∧ i < 4) (k : ∀ I', w_fr (p91 i) I I' → (∀ j, 0 ≤ j → j < 700 → I' 110 (700 * i + j) = if j = 1 then 1 else if j = 2 then 3 else if 11 ≤ j ∧ j ≤ 18 then -1 else 0) → I' 111 i = 0 → I' 114 i = 0 → Q none I' J b) : w_C xs xl 191 [.ref 104, w_i i] I J b Q := by
  refine e191 (b191_0 ?_)
  have loop2 : ∀ (m : Nat) (l2 : Int) (I1 : w_I), l2 + m = 8 → 0 ≤ l2 → w_fr (p91 i) I I1 → (∀ j, 0 ≤ j → j < 700 → I1 110 (700 * i + j) = if j = 1 then 1 else if j = 2 then 3 else if 11 ≤ j ∧ j < 11 + l2 then -1 else 0) → w_T xs xl 191 56 [some (.ref 104), some (w_i i), some (w_i l2)] [] [] I1 J b Q := by
    intro m
    induction m with
    | zero =>
      intro l2 I1 a0 a1 a2 a3
      have kk := k (w_U (w_U I1 111 i 0) 114 i 0) (w_frU (w_frU a2 (by unfold p91; simp)) (by unfold p91; simp)) (fun j x y => by
        rw [w_Ua (by decide), w_Ua (by decide), a3 j x y]
        by_cases e1 : j = 1
        · rw [if_pos e1, if_pos e1]
        · rw [if_neg e1, if_neg e1]
          by_cases e2 : j = 2
          · rw [if_pos e2, if_pos e2]
          · rw [if_neg e2, if_neg e2]
            by_cases e3 : 11 ≤ j ∧ j ≤ 18
            · rw [if_pos e3, if_pos (by omega)]
            · rw [if_neg e3, if_neg (by omega)]) (by simp [w_Ug]) (by simp [w_Ug])
      refine b191_56 ?_
      try simp only [w_Ug, reduceIte, Nat.reduceEqDiff, Int.reduceEq, eq_self, if_true]
      repeat' (first | apply And.intro | intro)
      all_goals (try first | omega | contradiction | exact Or.inl trivial | exact Or.inr trivial)
    | succ m ih =>
      intro l2 I1 a0 a1 a2 a3
      have nx := ih (l2 + 1) (w_U I1 110 (700 * i + 11 + l2) (-1)) (by omega) (by omega) (w_frU a2 (p91_1 (by omega))) (fun j x y => by
        rw [w_Ug, if_pos rfl]
        by_cases e : j = 11 + l2
        · rw [if_pos (by omega), if_neg (by omega), if_neg (by omega), if_pos (by omega)]
        · rw [if_neg (by omega), a3 j x y]
          by_cases e1 : j = 1
          · rw [if_pos e1, if_pos e1]
          · rw [if_neg e1, if_neg e1]
            by_cases e2 : j = 2
            · rw [if_pos e2, if_pos e2]
            · rw [if_neg e2, if_neg e2]
              by_cases e3 : 11 ≤ j ∧ j < 11 + l2
              · rw [if_pos e3, if_pos (by omega)]
              · rw [if_neg e3, if_neg (by omega)])
      refine b191_56 ?_
      try simp only [w_Ug, reduceIte, Nat.reduceEqDiff, Int.reduceEq, eq_self, if_true]
      repeat' (first | apply And.intro | intro)
      all_goals (try first | omega | contradiction | exact Or.inl trivial | exact Or.inr trivial)
  have loop1 : ∀ (m : Nat) (l2 : Int) (I1 : w_I), l2 + m = 700 → 0 ≤ l2 → w_fr (p91 i) I I1 → (∀ j, 0 ≤ j → j < l2 → I1 110 (700 * i + j) = 0) → w_T xs xl 191 2 [some (.ref 104), some (w_i i), some (w_i l2)] [] [] I1 J b Q := by
    intro m
    induction m with
    | zero =>
      intro l2 I1 a0 a1 a2 a3
      have nx := loop2 8 0 (w_U (w_U I1 110 (700 * i + 1) 1) 110 (700 * i + 2) 3) (by decide) (by decide) (w_frU (w_frU a2 (p91_1 (by omega))) (p91_1 (by omega))) (fun j x y => by
        rw [w_Ug, if_pos rfl, w_Ug, if_pos rfl]
        by_cases e1 : j = 1
        · rw [if_pos e1, if_neg (by omega), if_pos (by omega)]
        · rw [if_neg e1]
          by_cases e2 : j = 2
          · rw [if_pos e2, if_pos (by omega)]
          · rw [if_neg e2, if_neg (by omega), if_neg (by omega), if_neg (by omega)]
            exact a3 j x (by omega))
      refine b191_2 ?_
      try simp only [w_Ug, reduceIte, Nat.reduceEqDiff, Int.reduceEq, eq_self, if_true]
      repeat' (first | apply And.intro | intro)
      all_goals (try first | omega | contradiction | exact Or.inl trivial | exact Or.inr trivial)
    | succ m ih =>
      intro l2 I1 a0 a1 a2 a3
      have nx := ih (l2 + 1) (w_U I1 110 (700 * i + l2) 0) (by omega) (by omega) (w_frU a2 (p91_1 (by omega))) (fun j x y => by
        rw [w_Ug, if_pos rfl]
        by_cases e : j = l2
        · rw [if_pos (by omega)]
        · rw [if_neg (by omega)]
          exact a3 j x (by omega))
      refine b191_2 ?_
      try simp only [w_Ug, reduceIte, Nat.reduceEqDiff, Int.reduceEq, eq_self, if_true]
      repeat' (first | apply And.intro | intro)
      all_goals (try first | omega | contradiction | exact Or.inl trivial | exact Or.inr trivial)
  exact loop1 700 0 I (by decide) (by decide) w_frr (fun j x y => by omega)
end
