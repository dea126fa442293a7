section
/-! the calls, both sides: read, hold, restore -/
variable {xs : Nat → Int32} {xl : Nat} {I J : w_I} {b : Bool} {Q : Option Value → w_I → w_I → Bool → Prop}
variable {s : Int → Int}
theorem p121_a {I' : w_I} (f : w_fr p121 I I') {a : Nat} (h0 : a ≠ 0) (h : ¬ (8 ≤ a ∧ a ≤ 19)) : I' a = I a := w_frA f (fun k => by
  have : (Nat.ble 8 a && Nat.ble a 19) = false := by
    cases z : Nat.ble 8 a
    · rfl
    · cases z2 : Nat.ble a 19
      · rfl
      · exact absurd ⟨Nat.le_of_ble_eq_true z, Nat.le_of_ble_eq_true z2⟩ h
  unfold p121
  rw [this]
  simp [h0])
/-- a fault told -/
theorem RR_ft {I1 I2 : w_I} (R : RR I) (f1 : w_fr p121 I I1) (f2 : w_fr p200 I1 I2) (B : zB1 I2) (c1 : I1 0 1 = 0) (c2 : I2 104 0 = 0) (pl : I1 0 2 = I2 104 9) : RR I2 := by
  have lo : ∀ a, a < 104 → a ≠ 0 → ¬ (8 ≤ a ∧ a ≤ 19) → I2 a = I a := fun a x y z => by rw [p200_c f2 x, p121_a f1 y z]
  have hi : ∀ a k, 104 ≤ a → p200 a k = false → I2 a k = I a k := fun a k x e => by rw [f2 a k e, p121_a f1 (by omega) (by omega)]
  have h110 : ∀ k, k < 700 ∨ 1400 ≤ k → I2 110 k = I 110 k := fun k x => hi 110 k (by decide) (by unfold p200; rw [decide_eq_false (by omega)]; rfl)
  have e7 : m_eq7 (I 110) (I2 110) := fun k x y => h110 k (by omega)
  refine RR_g R (m_wf_c R.1.1 e7) (c_rf_fr (fun a x y => lo a (by omega) (by omega) (by omega)) (c_rf_c R.1.2.1 R.1.1.1 e7)) (fun k x => h110 k (by omega)) (fun k x => h110 k (by omega)) (fun a x => ?_) (fun k x => ⟨hi 112 k (by decide) ?_, hi 113 k (by decide) ?_⟩) (fun a k x y z => hi a k (by omega) ?_) B ?_ ?_ ?_
  · by_cases c : a = 121
    · subst c
      exact funext fun k => hi 121 k (by decide) rfl
    · exact lo a (by omega) (by omega) (by omega)
  · unfold p200; rw [decide_eq_false (show ¬ (500 ≤ k ∧ k < 1000) by omega)]; rfl
  · unfold p200; rw [decide_eq_false (show ¬ (500 ≤ k ∧ k < 1000) by omega)]; rfl
  · have h1 : a ≠ 104 := by omega
    have h2 : a ≠ 106 := by omega
    have h3 : a ≠ 107 := by omega
    have h4 : a ≠ 108 := by omega
    have h5 : a ≠ 123 := by omega
    have h6 : a ≠ 110 := by omega
    have h7 : a ≠ 111 := by omega
    have h8 : a ≠ 114 := by omega
    have h9 : a ≠ 112 := by omega
    have h10 : a ≠ 113 := by omega
    unfold p200
    rw [decide_eq_false (show ¬ (200 ≤ k ∧ k < 400) by omega)]
    simp [h1, h2, h3, h4, h5, h6, h7, h8, h9, h10]
  · rw [c2]
    exact ⟨by rw [p200_c f2 (by decide)]; exact c1, by decide, fun k x y => by omega⟩
  · rw [c2]
    exact ⟨c2, by decide, fun k x y => rfl⟩
  · rw [p200_c f2 (by decide)]; exact pl
theorem k_read (R : RR I) : Both xs xl 121 [.ref 0] 200 [.ref 104] I := fun J b Q k => by
  obtain ⟨t1, t2⟩ := R.2.2.2.1
  have hb : ∀ k, 0 ≤ k → k < I 104 0 → 0 ≤ I 105 k ∧ I 105 k < 256 := fun k x y => by
    have := t1.2.2 k x y
    omega
  generalize hR : z_all (t_K (t_G (I 105) (I 104 0)) (I 104 0)) (t_V (t_G (I 105) (I 104 0)) (I 104 0)) (t_N (t_G (I 105) (I 104 0)) (I 104 0)) 401 0 z_S0 = W
  have tp : ∀ {I1 : w_I}, I1 104 = I 104 → I1 105 = I 105 → s_tp I1 (I 105) (I 104 0) := fun e4 e5 => by
    unfold s_tp
    rw [e4, e5]
    exact t2
  refine c121 t1 hR (fun r I1 f1 e1 e2 => k _ I1 J b (fun Q2 q => ?_)) (fun r l I1 f1 e1 e2 => k _ I1 J b (fun Q2 q => ?_)) (fun r l I1 g1 e1 e2 zd d1 d2 d3 d4 hq hv hh => k _ I1 J b (fun Q2 q => ?_))
  · exact s200 (tp (p121_a f1 (by decide) (by decide)) (p121_a f1 (by decide) (by decide))) hb (zB1_e (p121_a f1 (by decide) (by decide)) R.2.1) hR (fun _ I2 J2 f2 B e3 e4 => q I2 J2 b (RR_ft R f1 f2 B e1 e3 (by rw [e2, e4]))) (fun x => absurd x r) (fun x => absurd x r)
  · exact s200 (tp (p121_a f1 (by decide) (by decide)) (p121_a f1 (by decide) (by decide))) hb (zB1_e (p121_a f1 (by decide) (by decide)) R.2.1) hR (fun x => absurd r x) (fun _ _ I2 J2 f2 B e3 e4 => q I2 J2 b (RR_ft R f1 f2 B e1 e3 (by rw [e2, e4]))) (fun _ x => absurd x l)
  · have a104 : I1 104 = I 104 := g1 104 (by decide)
    have a105 : I1 105 = I 105 := g1 105 (by decide)
    refine s200 (tp a104 a105) hb (zB1_e (g1 115 (by decide)) R.2.1) hR (fun x => absurd r x) (fun _ x => absurd l x) (fun _ _ I2 J2 f2 B e3 e4 e5 e6 ze _ => q I2 J2 b ?_)
    obtain ⟨K, hq⟩ := hq
    obtain ⟨q1, q2, q3, q4⟩ := hq.1
    have lo : ∀ a, a < 104 → I2 a = I1 a := fun a x => f2 a (by omega)
    have zd2 : zD I2 W.2.2 := by
      unfold zD
      rw [lo 2 (by decide), lo 3 (by decide), lo 4 (by decide), lo 5 (by decide), lo 6 (by decide), lo 7 (by decide)]
      exact zd
    have ns : ∀ i : Int, (i = 0 ∨ i = 1) → I2 49 i = 0 ∧ I2 121 (2 + i) = 0 := fun i hi => by
      rw [lo 49 (by decide)]
      rcases hi with rfl | rfl
      · exact ⟨d3, e5⟩
      · exact ⟨d4, e6⟩
    have sl : ∀ (i : Int) (o : Nat), (i = 0 ∨ i = 1) → Sl I2 i o := fun i o hi => by
      obtain ⟨x, y⟩ := ns i hi
      exact ⟨Or.inl x, by rw [x, y], fun z => by omega⟩
    refine ⟨⟨jn_wf ze hv l ⟨q1, q3, q4⟩, jn_rf ze (by rw [lo 20 (by decide)]; exact d1) (by rw [lo 30 (by decide)]; exact d2), jn_rt ze zd2 q1, jn_cd ze zd2 hv q4⟩, B, ⟨sl 0 50 (Or.inl rfl), sl 1 64 (Or.inr rfl)⟩, ⟨?_, ?_⟩, ?_⟩
    · rw [e3]
      exact ⟨by rw [lo 0 (by decide)]; exact e1, by decide, fun k x y => by omega⟩
    · rw [e3]
      exact ⟨e3, by decide, fun k x y => rfl⟩
    · rw [lo 0 (by decide), e2, e4]
theorem m_cpy_o {x : Int → Int} {n fr to k : Int} (h : ¬ (n * to ≤ k ∧ k < n * to + n)) : m_cpy x n fr to k = x k := if_neg h
theorem m_cpy_i {x : Int → Int} {n fr to k j : Int} (h : 0 ≤ j ∧ j < n) (e : k = n * to + j) : m_cpy x n fr to k = x (n * fr + j) := by
  unfold m_cpy
  rw [if_pos (by omega), show n * fr + (k - n * to) = n * fr + j by omega]
theorem zB1_cp {I1 I2 : w_I} {fr to : Int} (B : zB1 I1) (hf : 0 ≤ fr ∧ fr < 4) (e : I2 115 = m_cpy (I1 115) 200 fr to) : zB1 I2 := fun k x y => by
  rw [e]
  unfold m_cpy
  split
  · exact B _ (by omega) (by omega)
  · exact B k x y
theorem p192_a {I' : w_I} (f : w_fr p192 I I') {a : Nat} (h : ¬ (110 ≤ a ∧ a ≤ 120)) : I' a = I a := w_frA f (fun k => by
  unfold p192
  cases z : Nat.ble 110 a
  · rfl
  · cases z2 : Nat.ble a 120
    · rfl
    · exact absurd ⟨Nat.le_of_ble_eq_true z, Nat.le_of_ble_eq_true z2⟩ h)
theorem RR_hold {I1 I2 : w_I} {i : Int} {o : Nat} (R : RR I) (hi : (i = 0 ∧ o = 50) ∨ (i = 1 ∧ o = 64)) (g1 : ∀ a, (a < o ∨ o + 13 < a) → I1 a = I a) (r1 : c_rf o I1 (I 110)) (f2 : w_fr p192 (w_U I1 49 i 1) I2) (a110 : I2 110 = m_cpy (I 110) 700 0 (2 + i)) (a112 : I2 112 = m_cpy (I 112) 500 0 (2 + i)) (a113 : I2 113 = m_cpy (I 113) 500 0 (2 + i)) (al : ∀ a : Nat, 115 ≤ a → a ≤ 120 → I2 a = m_cpy (I a) 200 0 (2 + i)) : RR (w_U I2 121 (2 + i) 1) := by
  obtain ⟨⟨wf, rf, rt, cd⟩, B, ⟨s0, s1⟩, ⟨t1, t2⟩, pl⟩ := R
  have oo : 50 ≤ o ∧ o + 13 ≤ 77 := by omega
  have lo : ∀ a, a < 110 → a ≠ 49 → (a < o ∨ o + 13 < a) → (w_U I2 121 (2 + i) 1) a = I a := fun a x y z => by
    rw [w_Ua (by omega), p192_a f2 (by omega), w_Ua y, g1 a z]
  have hi' : ∀ a, a ≠ 121 → (w_U I2 121 (2 + i) 1) a = I2 a := fun a x => w_Ua x
  have e110 : ∀ k, k < 1400 → (w_U I2 121 (2 + i) 1) 110 k = I 110 k := fun k x => by
    rw [hi' 110 (by decide), a110]
    exact m_cpy_o (by omega)
  have n110 : ∀ k, 0 ≤ k → k < 700 → (w_U I2 121 (2 + i) 1) 110 (700 * (2 + i) + k) = I 110 k := fun k x y => by
    rw [hi' 110 (by decide), a110, m_cpy_i ⟨x, y⟩ rfl, show 700 * 0 + k = k by omega]
  have ec : ∀ k, k < 1000 → (w_U I2 121 (2 + i) 1) 112 k = I 112 k ∧ (w_U I2 121 (2 + i) 1) 113 k = I 113 k := fun k x => by
    rw [hi' 112 (by decide), hi' 113 (by decide), a112, a113]
    exact ⟨m_cpy_o (by omega), m_cpy_o (by omega)⟩
  have nc : ∀ k, 0 ≤ k → k < 500 → (w_U I2 121 (2 + i) 1) 112 (500 * (2 + i) + k) = I 112 k ∧ (w_U I2 121 (2 + i) 1) 113 (500 * (2 + i) + k) = I 113 k := fun k x y => by
    rw [hi' 112 (by decide), hi' 113 (by decide), a112, a113, m_cpy_i ⟨x, y⟩ rfl, m_cpy_i ⟨x, y⟩ rfl, show 500 * 0 + k = k by omega]
    exact ⟨rfl, rfl⟩
  have el : ∀ (a : Nat) (k : Int), 115 ≤ a → a ≤ 120 → k < 400 → (w_U I2 121 (2 + i) 1) a k = I a k := fun a k x y z => by
    rw [hi' a (by omega), al a x y]
    exact m_cpy_o (by omega)
  have nl : ∀ (a : Nat) (k : Int), 115 ≤ a → a ≤ 120 → 0 ≤ k → k < 200 → (w_U I2 121 (2 + i) 1) a (200 * (2 + i) + k) = I a k := fun a k x y z u => by
    rw [hi' a (by omega), al a x y, m_cpy_i ⟨z, u⟩ rfl, show 200 * 0 + k = k by omega]
  have e7 : m_eq7 (I 110) ((w_U I2 121 (2 + i) 1) 110) := fun k x y => e110 k (by omega)
  have eT : m_eqT (I 110) ((w_U I2 121 (2 + i) 1) 110) := fun k x => e110 k (by omega)
  have eF : m_eqF (RF I) (RF (w_U I2 121 (2 + i) 1)) := ⟨fun k x y => ec k (by omega), fun k x y => ⟨el 115 k (by decide) (by decide) (by omega), el 116 k (by decide) (by decide) (by omega), el 117 k (by decide) (by decide) (by omega), el 118 k (by decide) (by decide) (by omega), el 119 k (by decide) (by decide) (by omega), el 120 k (by decide) (by decide) (by omega)⟩⟩
  obtain ⟨x1, x2⟩ := told_g wf.1 rt cd eT (fun a x => lo a (by omega) (by omega) (by omega)) eF
  have other : ∀ (j : Int) (u : Nat), (j = 0 ∧ u = 50) ∨ (j = 1 ∧ u = 64) → j ≠ i → Sl I j u → Sl (w_U I2 121 (2 + i) 1) j u := fun j u hj hn h => by
    refine Sl_g h ?_ ?_ (fun a x y => ?_) eT (fun k x y => ?_) (fun k x y => ⟨ec k (by omega), ?_⟩) (fun a k x y z v => ⟨el a k x y (by omega), ?_⟩)
    · rw [hi' 49 (by decide), p192_a f2 (by decide), w_Ug, if_pos rfl, if_neg hn, g1 49 (by omega)]
    · rw [w_Ug, if_pos rfl, if_neg (by omega), p192_a f2 (by decide), w_Ua (by decide), g1 121 (by omega)]
    · exact lo a (by omega) (by omega) (by omega)
    · rw [hi' 110 (by decide), a110]
      exact m_cpy_o (by omega)
    · rw [hi' 112 (by decide), hi' 113 (by decide), a112, a113]
      exact ⟨m_cpy_o (by omega), m_cpy_o (by omega)⟩
    · rw [hi' a (by omega), al a x y]
      exact m_cpy_o (by omega)
  have same : Sl (w_U I2 121 (2 + i) 1) i o := by
    have q49 : (w_U I2 121 (2 + i) 1) 49 i = 1 := by rw [hi' 49 (by decide), p192_a f2 (by decide), w_Ug, if_pos rfl, if_pos rfl]
    refine ⟨Or.inr q49, by rw [q49, w_Ug, if_pos rfl, if_pos rfl], fun _ => ?_⟩
    have e7' : m_eq7 (I 110) (fun k => (w_U I2 121 (2 + i) 1) 110 (700 * (2 + i) + k)) := fun k x y => n110 k x y
    refine ⟨m_wf_c wf e7', c_rf_fr (fun a x y => ?_) (c_rf_c r1 wf.1 e7'), fun k x => ?_, fun k x y => ?_, fun a k x y z u => ?_⟩
    · rw [w_Ua (by omega), p192_a f2 (by omega), w_Ua (by omega)]
    · show (w_U I2 121 (2 + i) 1) 110 (700 * (2 + i) + k) = _
      rw [n110 k (by omega) (by omega), e110 k (by omega)]
    · rw [(nc k x y).1, (nc k x y).2, (ec k (by omega)).1, (ec k (by omega)).2]
      exact ⟨rfl, rfl⟩
    · rw [nl a k x y z u, el a k x y (by omega)]
  have l0 := lo 0 (by decide) (by decide) (by omega)
  have l104 := lo 104 (by decide) (by decide) (by omega)
  have l105 := lo 105 (by decide) (by decide) (by omega)
  refine ⟨⟨m_wf_c wf e7, c_rf_fr (fun a x y => lo a (by omega) (by omega) (by omega)) (c_rf_c rf wf.1 e7), x1, x2⟩, ?_, ?_, ⟨?_, ?_⟩, ?_⟩
  · exact zB1_e (hi' 115 (by decide)) (zB1_cp B (by decide) (al 115 (by decide) (by decide)))
  · rcases hi with ⟨e, e'⟩ | ⟨e, e'⟩
    · subst e
      subst e'
      exact ⟨same, other 1 64 (Or.inr ⟨rfl, rfl⟩) (by decide) s1⟩
    · subst e
      subst e'
      exact ⟨other 0 50 (Or.inl ⟨rfl, rfl⟩) (by decide) s0, same⟩
  · unfold c_tp at t1 ⊢
    rw [l0, lo 1 (by decide) (by decide) (by omega), l104, l105]
    exact t1
  · unfold s_tp at t2 ⊢
    rw [l104, l105]
    exact t2
  · rw [l0, l104]
    exact pl
theorem k_hold {i : Int} (R : RR I) (hi : w_in i) : Both xs xl 152 [.ref 0, w_i i] 202 [.ref 104, w_i i] I := fun J b Q k => by
  by_cases c : 0 ≤ i ∧ i ≤ 1
  · -- it is held
    have step : ∀ (o : Nat) (I1 : w_I), (i = 0 ∧ o = 50) ∨ (i = 1 ∧ o = 64) → (∀ a, (a < o ∨ o + 13 < a) → I1 a = I a) → c_rf o I1 (I 110) → Q (some (w_i 1)) (w_U I1 49 i 1) J b := by
      intro o I1 ho g1 r1
      refine k _ _ J b (fun Q2 q => e202 ?_)
      have ea : ∀ a, 78 ≤ a → (w_U I1 49 i 1) a = I a := fun a x => by rw [w_Ua (by omega), g1 a (by omega)]
      have fin : w_C xs xl 192 [.ref 104, w_i 0, w_i (2 + i)] (w_U I1 49 i 1) J b (fun v Ic Jc bc => w_T xs xl 202 19 [some (.ref 104), some (w_i i)] [] (w_pv v []) Ic Jc bc Q2) := by
        refine s192 (by decide) (by omega) (by omega) (zB1_e (ea 115 (by decide)) R.2.1) (fun I2 f2 a110 a112 a113 a115 a116 a117 a118 a119 a120 => b202_19 ⟨by omega, q _ J b (RR_hold R ho g1 r1 f2 ?_ ?_ ?_ (fun a x y => ?_))⟩)
        · rw [a110, ea 110 (by decide)]
        · rw [a112, ea 112 (by decide)]
        · rw [a113, ea 113 (by decide)]
        · have : a = 115 ∨ a = 116 ∨ a = 117 ∨ a = 118 ∨ a = 119 ∨ a = 120 := by omega
          rcases this with e | e | e | e | e | e <;> subst e
          · rw [a115, ea 115 (by decide)]
          · rw [a116, ea 116 (by decide)]
          · rw [a117, ea 117 (by decide)]
          · rw [a118, ea 118 (by decide)]
          · rw [a119, ea 119 (by decide)]
          · rw [a120, ea 120 (by decide)]
      refine b202_0 ?_
      try simp only [w_Ug, reduceIte, Nat.reduceEqDiff, Int.reduceEq, eq_self, if_true]
      repeat' (first | apply And.intro | intro)
      all_goals (try first | omega | contradiction | exact Or.inl trivial | exact Or.inr trivial)
    have h24 : ∀ (o : Nat) (I1 : w_I), (i = 0 ∧ o = 50) ∨ (i = 1 ∧ o = 64) → (∀ a, (a < o ∨ o + 13 < a) → I1 a = I a) → c_rf o I1 (I 110) → w_T xs xl 152 24 [some (.ref 0), some (w_i i)] [] [] I1 J b Q := fun o I1 ho g1 r1 => b152_24 ⟨by omega, step o I1 ho g1 r1⟩
    refine e152 ?_
    have p50 := fun (h : i = 0) => c4_50_20 (xs := xs) (xl := xl) (J := J) (b := b) (Q := fun v Ic Jc bc => w_T xs xl 152 24 [some (.ref 0), some (w_i i)] [] (w_pv v []) Ic Jc bc Q) R.1.2.1 R.1.1.1 (fun I1 g1 r1 => h24 50 I1 (Or.inl ⟨h, rfl⟩) g1 r1)
    have p64 := fun (h : i = 1) => c4_64_20 (xs := xs) (xl := xl) (J := J) (b := b) (Q := fun v Ic Jc bc => w_T xs xl 152 24 [some (.ref 0), some (w_i i)] [] (w_pv v []) Ic Jc bc Q) R.1.2.1 R.1.1.1 (fun I1 g1 r1 => h24 64 I1 (Or.inr ⟨h, rfl⟩) g1 r1)
    refine b152_0 ?_
    try simp only [w_Ug, reduceIte, Nat.reduceEqDiff, Int.reduceEq, eq_self, if_true]
    repeat' (first | apply And.intro | intro)
    all_goals (try first | omega | contradiction | exact Or.inl trivial | exact Or.inr trivial)
    · exact p50 (by omega)
    · exact p64 (by omega)
  · have q0 : Q (some (w_i 0)) I J b := by
      refine k _ I J b (fun Q2 q => e202 ?_)
      have q := q I J b R
      refine b202_0 ?_
      try simp only [w_Ug, reduceIte, Nat.reduceEqDiff, Int.reduceEq, eq_self, if_true]
      repeat' (first | apply And.intro | intro)
      all_goals (try first | omega | contradiction | exact Or.inl trivial | exact Or.inr trivial)
    refine e152 ?_
    refine b152_0 ?_
    try simp only [w_Ug, reduceIte, Nat.reduceEqDiff, Int.reduceEq, eq_self, if_true]
    repeat' (first | apply And.intro | intro)
    all_goals (try first | omega | contradiction | exact Or.inl trivial | exact Or.inr trivial)
theorem k_restore {i : Int} (R : RR I) (hi : w_in i) : Both xs xl 153 [.ref 0, w_i i] 203 [.ref 104, w_i i] I := fun J b Q k => by
  by_cases c : 0 ≤ i ∧ i ≤ 1
  · have sl : ∃ o : Nat, ((i = 0 ∧ o = 50) ∨ (i = 1 ∧ o = 64)) ∧ Sl I i o := by
      obtain ⟨s0, s1⟩ := R.2.2.1
      have : i = 0 ∨ i = 1 := by omega
      rcases this with e | e
      · subst e; exact ⟨50, Or.inl ⟨rfl, rfl⟩, s0⟩
      · subst e; exact ⟨64, Or.inr ⟨rfl, rfl⟩, s1⟩
    obtain ⟨o, ho, sl⟩ := sl
    obtain ⟨h49, h121, hs⟩ := sl
    by_cases c1 : I 49 i = 1
    · obtain ⟨u1, u2, u3, u4, u5⟩ := hs c1
      have step : ∀ (I1 : w_I), (∀ a, (a < 20 ∨ 33 < a) → I1 a = I a) → c_rf 20 I1 (fun k => I 110 (700 * (2 + i) + k)) → Q (some (w_i 1)) I1 J b := by
        intro I1 g1 r1
        refine k _ I1 J b (fun Q2 q => e203 ?_)
        have ea : ∀ a, 34 ≤ a → I1 a = I a := fun a x => g1 a (by omega)
        have e121 : I1 121 (2 + i) = 1 := by rw [ea 121 (by decide), h121]; exact c1
        have fin : w_C xs xl 192 [.ref 104, w_i (2 + i), w_i 0] I1 J b (fun v Ic Jc bc => w_T xs xl 203 30 [some (.ref 104), some (w_i i)] [] (w_pv v []) Ic Jc bc Q2) := by
          refine s192 (by omega) (by decide) (by omega) (zB1_e (ea 115 (by decide)) R.2.1) (fun I2 f2 a110 a112 a113 a115 a116 a117 a118 a119 a120 => b203_30 (q I2 J b ?_))
          rw [ea 110 (by decide)] at a110
          rw [ea 112 (by decide)] at a112
          rw [ea 113 (by decide)] at a113
          have al : ∀ a : Nat, 115 ≤ a → a ≤ 120 → I2 a = m_cpy (I a) 200 (2 + i) 0 := fun a x y => by
            have : a = 115 ∨ a = 116 ∨ a = 117 ∨ a = 118 ∨ a = 119 ∨ a = 120 := by omega
            rcases this with e | e | e | e | e | e <;> subst e
            · rw [a115, ea 115 (by decide)]
            · rw [a116, ea 116 (by decide)]
            · rw [a117, ea 117 (by decide)]
            · rw [a118, ea 118 (by decide)]
            · rw [a119, ea 119 (by decide)]
            · rw [a120, ea 120 (by decide)]
          have n110 : ∀ k, 0 ≤ k → k < 700 → I2 110 k = I 110 (700 * (2 + i) + k) := fun k x y => by
            rw [a110]
            exact m_cpy_i ⟨x, y⟩ (by omega)
          have e7 : m_eq7 (fun k => I 110 (700 * (2 + i) + k)) (I2 110) := fun k x y => n110 k x y
          have lo : ∀ a, (34 ≤ a ∧ a < 110) ∨ a < 20 ∨ 120 < a → I2 a = I a := fun a x => by rw [p192_a f2 (by omega), g1 a (by omega)]
          have t := R.2.2.2.1
          refine RR_g R (m_wf_c u1 e7) (c_rf_fr (fun a x y => p192_a f2 (by omega)) (c_rf_c r1 u1.1 e7)) (fun k x => ?_) (fun k x => ?_) (fun a x => lo a (by omega)) (fun k x => ?_) (fun a k x y z => ?_) (zB1_cp R.2.1 (by omega) (al 115 (by decide) (by decide))) ?_ ?_ ?_
          · rw [n110 k (by omega) (by omega)]
            exact u3 k x
          · rw [a110]
            exact m_cpy_o (by omega)
          · rw [a112, a113]
            by_cases z : k < 500
            · rw [m_cpy_i (j := k) (by omega) (by omega), m_cpy_i (j := k) (by omega) (by omega)]
              exact u4 k (by omega) z
            · exact ⟨m_cpy_o (by omega), m_cpy_o (by omega)⟩
          · rw [al a x y]
            by_cases w : k < 200
            · rw [m_cpy_i (j := k) (by omega) (by omega)]
              exact u5 a k x y (by omega) w
            · exact m_cpy_o (by omega)
          · have t1 := t.1
            unfold c_tp at t1 ⊢
            rw [lo 0 (by decide), lo 1 (by decide), lo 104 (by decide), lo 105 (by decide)]
            exact t1
          · have t2 := t.2
            unfold s_tp at t2 ⊢
            rw [lo 104 (by decide), lo 105 (by decide)]
            exact t2
          · rw [lo 0 (by decide), lo 104 (by decide)]
            exact R.2.2.2.2
        refine b203_0 ?_
        try simp only [w_Ug, reduceIte, Nat.reduceEqDiff, Int.reduceEq, eq_self, e121]
        repeat' (first | apply And.intro | intro)
        all_goals (try first | omega | contradiction | exact Or.inl trivial | exact Or.inr trivial)
      refine e153 ?_
      have p50 := fun (h : o = 50) => c4_20_50 (xs := xs) (xl := xl) (J := J) (b := b) (Q := fun v Ic Jc bc => w_T xs xl 153 33 [some (.ref 0), some (w_i i)] [] (w_pv v []) Ic Jc bc Q) (h ▸ u2) u1.1 (fun I1 g1 r1 => b153_33 (step I1 g1 r1))
      have p64 := fun (h : o = 64) => c4_20_64 (xs := xs) (xl := xl) (J := J) (b := b) (Q := fun v Ic Jc bc => w_T xs xl 153 33 [some (.ref 0), some (w_i i)] [] (w_pv v []) Ic Jc bc Q) (h ▸ u2) u1.1 (fun I1 g1 r1 => b153_33 (step I1 g1 r1))
      refine b153_0 ?_
      try simp only [w_Ug, reduceIte, Nat.reduceEqDiff, Int.reduceEq, eq_self, c1]
      repeat' (first | apply And.intro | intro)
      all_goals (try first | omega | contradiction | exact Or.inl trivial | exact Or.inr trivial)
      · exact p50 (by omega)
      · exact p64 (by omega)
    · have c0 : I 49 i = 0 := by omega
      have c2 : I 121 (2 + i) = 0 := by omega
      have q0 : Q (some (w_i 0)) I J b := by
        refine k _ I J b (fun Q2 q => e203 ?_)
        have q := q I J b R
        refine b203_0 ?_
        try simp only [w_Ug, reduceIte, Nat.reduceEqDiff, Int.reduceEq, eq_self, c2]
        repeat' (first | apply And.intro | intro)
        all_goals (try first | omega | contradiction | exact Or.inl trivial | exact Or.inr trivial)
      refine e153 ?_
      refine b153_0 ?_
      try simp only [w_Ug, reduceIte, Nat.reduceEqDiff, Int.reduceEq, eq_self, c0]
      repeat' (first | apply And.intro | intro)
      all_goals (try first | omega | contradiction | exact Or.inl trivial | exact Or.inr trivial)
  · have q0 : Q (some (w_i 0)) I J b := by
      refine k _ I J b (fun Q2 q => e203 ?_)
      have q := q I J b R
      refine b203_0 ?_
      try simp only [w_Ug, reduceIte, Nat.reduceEqDiff, Int.reduceEq, eq_self, if_true]
      repeat' (first | apply And.intro | intro)
      all_goals (try first | omega | contradiction | exact Or.inl trivial | exact Or.inr trivial)
    refine e153 ?_
    refine b153_0 ?_
    try simp only [w_Ug, reduceIte, Nat.reduceEqDiff, Int.reduceEq, eq_self, if_true]
    repeat' (first | apply And.intro | intro)
    all_goals (try first | omega | contradiction | exact Or.inl trivial | exact Or.inr trivial)
end
