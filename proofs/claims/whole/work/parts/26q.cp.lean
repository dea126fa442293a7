section
/-! reading, the class: all -/
variable {xs : Nat → Int32} {xl : Nat} {I J : w_I} {b : Bool} {Q : Option Value → w_I → w_I → Bool → Prop}
variable {G K V P M : Int → Int} {n N h : Int} {S : z_S}
theorem z_ex_2 : ∀ (n : Nat) (h need op : Int) (W C : List Int), (z_ex K V n h need op W C).1 ≤ 2
  | 0, h, need, op, W, C => by unfold z_ex; show (1 : Int) ≤ 2; decide
  | n + 1, h, need, op, W, C => by
    unfold z_ex
    repeat' split
    all_goals first | exact z_ex_2 n _ _ _ _ _ | simp
theorem z_no_2 : ∀ (n : Nat) (h t : Int), (z_no K n h t).1 ≤ 2
  | 0, h, t => by unfold z_no; show (1 : Int) ≤ 2; decide
  | n + 1, h, t => by
    unfold z_no
    repeat' split
    all_goals first | exact z_no_2 n _ _ | simp
theorem z_li_2 {aft : Int} : (z_li K V h aft).1 ≤ 2 := by
  unfold z_li
  split
  · exact z_no_2 _ _ _
  · unfold z_lj
    repeat' split
    all_goals first | exact z_ex_2 _ _ _ _ _ _ | simp
theorem z_co_2 : ∀ (n : Nat) (h aft : Int), (z_co K V n h aft).1 ≤ 2
  | 0, h, aft => by unfold z_co; show (1 : Int) ≤ 2; decide
  | n + 1, h, aft => by
    unfold z_co
    split
    · exact z_li_2
    · split
      · split
        · show (2 : Int) ≤ 2; decide
        · exact z_co_2 n _ _
      · show (0 : Int) ≤ 2; decide
theorem z_pa_2 {f : Int → z_R} (g : ∀ h, (f h).1 ≤ 2) : (z_pa h S f).1 ≤ 2 := by
  unfold z_pa
  split
  · show (2 : Int) ≤ 2; decide
  · exact g _
theorem z_wa_2 {w : Int} {f : Int → z_R} (g : ∀ h, (f h).1 ≤ 2) : (z_wa K w h S f).1 ≤ 2 := by
  unfold z_wa
  split
  · exact z_pa_2 g
  · show (1 : Int) ≤ 2; decide
theorem z_en_2 : (z_en K S h).1 ≤ 2 := z_wa_2 (fun _ => by show (0 : Int) ≤ 2; decide)
theorem z_fi_2 {lo hi : Int} : (z_fi K V lo hi h S).1 ≤ 2 := by
  unfold z_fi z_nu
  split
  · exact z_pa_2 (fun _ => z_en_2)
  · show (1 : Int) ≤ 2; decide
theorem z_pt_2 : (z_pt K V M h S).1 ≤ 2 := by
  unfold z_pt
  split
  · unfold z_th
    split
    · show (2 : Int) ≤ 2; decide
    · refine z_pa_2 (fun _ => z_wa_2 (fun _ => ?_))
      unfold z_th1
      repeat' split
      · exact z_pa_2 (fun _ => z_fi_2)
      · exact z_pa_2 (fun _ => z_fi_2)
      · exact z_fi_2
  · split
    · exact z_pa_2 (fun _ => z_fi_2)
    · split
      · exact z_pa_2 (fun _ => z_fi_2)
      · split
        · refine z_pa_2 (fun _ => ?_)
          unfold z_tb1
          repeat' split
          · exact z_pa_2 (fun _ => z_en_2)
          · exact z_pa_2 (fun _ => z_en_2)
          · show (1 : Int) ≤ 2; decide
        · split
          · refine z_pa_2 (fun _ => z_wa_2 (fun _ => ?_))
            unfold z_tl2
            split
            · exact z_ex_2 _ _ _ _ _ _
            · exact z_en_2
          · split
            · unfold z_tru
              split
              · show (2 : Int) ≤ 2; decide
              · refine z_pa_2 (fun _ => z_wa_2 (fun _ => ?_))
                unfold z_tru2
                split
                · exact z_co_2 _ _ _
                · exact z_en_2
            · show (1 : Int) ≤ 2; decide
theorem z_all_2 : ∀ (n : Nat) (h : Int) (S : z_S), (z_all K V M n h S).1 ≤ 2
  | 0, h, S => by unfold z_all; show (1 : Int) ≤ 2; decide
  | n + 1, h, S => by
    unfold z_all
    split
    · show (0 : Int) ≤ 2; decide
    · split
      · exact z_pt_2
      · exact z_all_2 n _ _
theorem t_kd_2 {p : Int} (h : t_kd G n p = 2) : p < n ∧ t_lt (G p) ∧ t_wl G n p ≤ 8 ∧ t_vl G n p = t_wl G n p := by
  have h2 := t_sg_b (G p)
  have h3 := t_db_b (G p)
  unfold t_kd at h
  by_cases c1 : n ≤ p
  · rw [if_pos c1] at h
    omega
  · rw [if_neg c1] at h
    by_cases c2 : t_lt (G p)
    · rw [if_pos c2] at h
      unfold t_kw at h
      by_cases c3 : 8 < t_wl G n p
      · rw [if_pos c3] at h
        omega
      · refine ⟨by omega, c2, by omega, ?_⟩
        unfold t_vl
        rw [if_neg c1, if_pos c2]
    · rw [if_neg c2] at h
      exfalso
      repeat' split at h
      all_goals omega
theorem t_zM (hn : 0 ≤ n) (hz : ∀ k, n ≤ k → G k = 0) : zM G n (t_K G n) (t_V G n) (t_P G n) (t_N G n) N := by
  intro a e _ _ _ _ ka ke
  have pa := t_p_b hn hz a.toNat
  have pe := t_p_b hn hz e.toNat
  obtain ⟨a1, a2, a3, a4⟩ := t_kd_2 ka
  obtain ⟨e1, e2, e3, e4⟩ := t_kd_2 ke
  obtain ⟨a5, a6, a7⟩ := t_wl_b a1 a2
  obtain ⟨e5, e6, e7⟩ := t_wl_b e1 e2
  have va : t_V G n a = t_wl G n (t_P G n a) := a4
  have ve : t_V G n e = t_wl G n (t_P G n e) := e4
  have ea : t_p G n a.toNat = t_P G n a := rfl
  have ee : t_p G n e.toNat = t_P G n e := rfl
  rw [ea] at pa a1 a3 a5 a6 a7
  rw [ee] at pe e1 e3 e5 e6 e7
  rw [← va] at a3 a5 a6 a7
  rw [← ve] at e3 e5 e6 e7
  refine ⟨⟨by omega, by omega, by omega, by omega, by omega⟩, fun x => ?_, fun x => ?_⟩
  · obtain ⟨q1, q2⟩ := t_nm_i _ _ _ _ a7 e7 x
    exact ⟨by omega, fun i y z => q2 i y (by omega)⟩
  · unfold t_N
    rw [x.1]
    exact t_nm_c _ _ _ _ (fun i y z => x.2 i y (by omega))
theorem c101 {w v c : Int} (h99 : I 9 9 = c) (hw : 0 ≤ w ∧ w < 4) (hc : 0 ≤ c ∧ c < 404) (k : Q none (w_U (w_U (w_U (w_U I 13 w c) 12 c v) 9 9 (c + 1)) 14 w (c + 1)) J b) : w_C xs xl 101 [.ref 9, w_i w, w_i v] I J b Q := by
  refine e101 ?_
  refine b101_0 ?_
  try simp only [w_Ug, reduceIte, Nat.reduceEqDiff, Int.reduceEq, eq_self, h99]
  repeat' (first | apply And.intro | intro)
  all_goals (try first | omega | contradiction | exact Or.inl trivial | exact Or.inr trivial)
  refine c102 (c := c) (by rw [w_Ua (by decide)]; exact h99) hc ?_
  refine b101_15 ?_
  try simp only [w_Ug, reduceIte, Nat.reduceEqDiff, Int.reduceEq, eq_self, h99]
  repeat' (first | apply And.intro | intro)
  all_goals (try first | omega | contradiction | exact Or.inl trivial | exact Or.inr trivial)
theorem c100 (k : ∀ I', (∀ a, a ≠ 9 → a ≠ 12 → a ≠ 13 → a ≠ 14 → I' a = I a) → (I' 9 5 = 0 ∧ I' 9 6 = 1 ∧ I' 9 7 = 3 ∧ I' 9 8 = 0 ∧ I' 9 9 = 4 ∧ I' 9 10 = 0) → (∀ w, 0 ≤ w → w < 4 → I' 13 w = w ∧ I' 14 w = w + 1 ∧ I' 12 w = z_df w) → Q none I' J b) : w_C xs xl 100 [.ref 9] I J b Q := by
  refine e100 (b100_0 ?_)
  refine c101 (c := 0) (by simp [w_Ug]) (by decide) (by decide) (b100_36 ?_)
  refine c101 (c := 1) (by simp [w_Ug]) (by decide) (by decide) (b100_44 ?_)
  refine c101 (c := 2) (by simp [w_Ug]) (by decide) (by decide) (b100_50 ?_)
  refine c101 (c := 3) (by simp [w_Ug]) (by decide) (by decide) (b100_56 ?_)
  refine k _ (fun a x1 x2 x3 x4 => ?_) ⟨?_, ?_, ?_, ?_, ?_, ?_⟩ (fun w x y => ?_)
  · repeat rw [w_Ua (by assumption)]
  · simp [w_Ug]
  · simp [w_Ug]
  · simp [w_Ug]
  · simp [w_Ug]
  · simp [w_Ug]
  · simp [w_Ug]
  · have : w = 0 ∨ w = 1 ∨ w = 2 ∨ w = 3 := by omega
    rcases this with rfl | rfl | rfl | rfl <;> (refine ⟨?_, ?_, ?_⟩ <;> simp [w_Ug, z_df])
theorem c64 (h1 : 0 ≤ n ∧ n ≤ 2000) (h2 : ∀ k, 0 ≤ k → k < n → I 1 k % 256 = G k) (h3 : ∀ k, n ≤ k → G k = 0) {R : z_R} (hR : z_all (t_K G n) (t_V G n) (t_N G n) 401 0 z_S0 = R)
    (k0 : R.1 ≠ 0 → 0 ≤ R.1 ∧ R.1 ≤ 2 → ∀ I', w_fr pzZ I I' → I' 8 11 = t_P G n R.2.1 → Q (some (w_i R.1)) I' J b)
    (k1 : R.1 = 0 → q_ln R.2.2 ≠ 0 → q_ln R.2.2 = 0 ∨ q_ln R.2.2 = 3 ∨ q_ln R.2.2 = 5 → ∀ I', w_fr pzZ I I' → I' 8 11 = t_P G n (q_li R.2.2) → Q (some (w_i (q_ln R.2.2))) I' J b)
    (k2 : R.1 = 0 → q_ln R.2.2 = 0 → ∀ (N : Int) (I' : w_I), zN (t_K G n) (t_V G n) (t_P G n) N → w_fr pzZ I I' → zC I' G n (t_K G n) (t_V G n) (t_P G n) N R.2.1 R.2.2 → zQ (t_K G n) R.2.1 R.2.2 → zV2 R.2.2 → R.2.1 ≤ 400 → Q (some (w_i 0)) I' J b) : w_C xs xl 64 [.ref 8, w_i n] I J b Q := by
  refine e64 (b64_0 ?_)
  refine c100 (fun I1 f1 g1 g2 => b64_27 ?_)
  have f8 : I1 8 = w_U (w_U (w_U (w_U I 8 8 n) 8 9 0) 8 10 0) 8 12 0 8 := f1 8 (by decide) (by decide) (by decide) (by decide)
  have fr1 : w_fr pzZ I I1 := w_frt (I' := w_U (w_U (w_U (w_U I 8 8 n) 8 9 0) 8 10 0) 8 12 0) (w_frU (w_frU (w_frU (w_frU w_frr rfl) rfl) rfl) rfl) (fun a k e => by
    have x1 : a ≠ 9 := fun x => by subst x; cases e
    have x2 : a ≠ 12 := fun x => by subst x; cases e
    have x3 : a ≠ 13 := fun x => by subst x; cases e
    have x4 : a ≠ 14 := fun x => by subst x; cases e
    rw [f1 a x1 x2 x3 x4])
  have g : zG I1 G n := by
    refine ⟨by rw [f8]; simp [w_Ug], h1, fun k x y => ?_, h3⟩
    rw [fr1 1 k rfl]
    exact h2 k x y
  refine c65 g (fun N I2 n1 n2 n3 f2 tT => b64_31 ?_)
  have hN := t_zN h1 h3 n1 n2 n3
  have hM := t_zM (N := N) h1.1 h3
  have fr2 : w_fr pzZ I I2 := w_frt fr1 (fun a k e => by
    have x1 : a ≠ 15 := fun x => by subst x; cases e
    have x2 : a ≠ 16 := fun x => by subst x; cases e
    have x3 : a ≠ 17 := fun x => by subst x; cases e
    rw [f2 a x1 x2 x3])
  have z0 : zC I2 G n (t_K G n) (t_V G n) (t_P G n) N 0 z_S0 := by
    have i8 : I2 8 = I1 8 := f2 8 (by decide) (by decide) (by decide)
    have i9 : I2 9 = I1 9 := f2 9 (by decide) (by decide) (by decide)
    have i12 : I2 12 = I1 12 := f2 12 (by decide) (by decide) (by decide)
    have i13 : I2 13 = I1 13 := f2 13 (by decide) (by decide) (by decide)
    have i14 : I2 14 = I1 14 := f2 14 (by decide) (by decide) (by decide)
    obtain ⟨j1, j2, j3, j4, j5, j6⟩ := g1
    refine ⟨⟨zG_f g (by rw [i8]) (f2 1 (by decide) (by decide) (by decide)), tT⟩, ⟨?_, ?_⟩, ⟨Or.inl rfl, ?_, fun x => absurd rfl x⟩, ⟨?_, trivial, trivial, trivial⟩, ⟨?_, ?_, ?_, ?_⟩, ?_, ?_, ?_⟩
    · rw [i8, f8]; simp [w_Ug]
    · rw [i8, f8]; simp [w_Ug]
    · rw [i8, f8]; simp [w_Ug]; rfl
    · rw [i9]; exact j1
    · rw [i9]; exact j2
    · rw [i9]; exact j3
    · rw [i9]; exact j6
    · rw [i9]; exact j4
    · rw [i9, j5]; decide
    · intro w x y
      obtain ⟨y1, y2, y3⟩ := g2 w x y
      rw [i13, i14, i9, i12, y1, y2, j5]
      exact ⟨x, rfl, by omega, y3, trivial⟩
    · intro r L e
      cases e
  have q0 : zQ (t_K G n) 0 z_S0 := ⟨⟨rfl, rfl, by decide, by decide⟩, fun t ht => (by cases ht), fun x => absurd rfl x⟩
  have v0 : zV2 z_S0 := ⟨Or.inl rfl, fun x hx => (by cases hx), fun x hx => (by cases hx), ⟨by decide, fun _ => by decide⟩, ⟨by decide, fun _ => by decide⟩, Or.inl rfl, fun w C e => (by cases e), fun L hL => (by cases hL)⟩
  have loop : ∀ (m : Nat) (i h : Int) (S : z_S) (I3 : w_I) (u : Option Value), i + m = 401 → i ≤ h → 0 ≤ i → h ≤ N → zQ (t_K G n) h S → zV2 S → zC I3 G n (t_K G n) (t_V G n) (t_P G n) N h S → w_fr pzZ I I3 → z_all (t_K G n) (t_V G n) (t_N G n) m h S = R → w_T xs xl 64 35 [some (.ref 8), u, some (w_i 1), some (w_i i)] [] [] I3 J b Q := by
    intro m
    induction m with
    | zero =>
      intro i h S I3 u a0 a1 a2 a3
      omega
    | succ m ih =>
      intro i h S I3 u a0 a1 a2 a3 a4 a5 a6 a7 a8
      obtain ⟨p1, p2, p3, p4⟩ := z_pt_ok (M := t_N G n) hN ⟨by omega, a3⟩ a4 a5
      have p5 := z_pt_2 (K := t_K G n) (V := t_V G n) (M := t_N G n) (h := h) (S := S)
      have e9 := a6.2.1.1
      have e10 := a6.2.1.2
      obtain ⟨l1, l2, l3⟩ := a6.2.2.1
      have e15 := (a6.1.2 h (by omega) a3).1
      have kb := (hN.2.2.2.1 h (by omega) a3).1
      unfold z_all at a8
      by_cases c : t_K G n h = 0
      · rw [if_pos c] at a8
        rw [c] at e15
        rw [← a8] at k1 k2
        have fin : w_T xs xl 64 35 [some (.ref 8), u, some (w_i 0), some (w_i (i + 1))] [] [] I3 J b Q := by
          by_cases cl : q_ln S = 0
          · have kk := k2 rfl cl N I3 hN a7 a6 a4 a5 (by have := hN.1.2; show h ≤ 400; omega)
            rw [cl] at l2
            refine b64_35 ?_
            try simp only [w_Ug, reduceIte, Nat.reduceEqDiff, Int.reduceEq, eq_self, e10, l2]
            repeat' (first | apply And.intro | intro)
            all_goals (try first | omega | contradiction | exact Or.inl trivial | exact Or.inr trivial)
          · have kk := k1 rfl cl l1 (w_U (w_U I3 8 10 (I3 8 12)) 8 11 (I3 8 13)) (w_frU (w_frU a7 rfl) rfl) (by rw [w_Ug, if_pos rfl, if_pos rfl]; exact l3 cl)
            rw [l2, l3 cl] at kk
            have kk : Q (some (w_i (q_ln S))) (w_U (w_U I3 8 10 (q_ln S)) 8 11 (t_P G n (q_li S))) J b := kk
            have l3 := l3 cl
            refine b64_35 ?_
            try simp only [w_Ug, reduceIte, Nat.reduceEqDiff, Int.reduceEq, eq_self, e10, l2, l3]
            repeat' (first | apply And.intro | intro)
            all_goals (try first | omega | contradiction | exact Or.inl trivial | exact Or.inr trivial)
        refine b64_35 ?_
        try simp only [w_Ug, reduceIte, Nat.reduceEqDiff, Int.reduceEq, eq_self, e9, e15]
        repeat' (first | apply And.intro | intro)
        all_goals (try first | omega | contradiction | exact Or.inl trivial | exact Or.inr trivial)
      · rw [if_neg c] at a8
        refine b64_35 ?_
        try simp only [w_Ug, reduceIte, Nat.reduceEqDiff, Int.reduceEq, eq_self, e9, e15]
        repeat' (first | apply And.intro | intro)
        all_goals (try first | omega | contradiction | exact Or.inl trivial | exact Or.inr trivial)
        generalize hT : z_pt (t_K G n) (t_V G n) (t_N G n) h S = T at p1 p2 p3 p4 p5 a8
        refine c81 hN hM a6 a4 ⟨by omega, a3⟩ hT (fun t0 I4 f4 z4 => ?_) (fun t0 I4 f4 => ?_)
        · rw [if_neg (fun x => x t0)] at a8
          obtain ⟨q1, q2, q3⟩ := p1 t0
          have nx := ih (i + 1) T.2.1 T.2.2 I4 u (by omega) (by omega) (by omega) p2 q1 q2 z4 (w_frt a7 f4) a8
          refine b64_62 ?_
          try simp only [w_Ug, reduceIte, Nat.reduceEqDiff, Int.reduceEq, eq_self, if_true]
          repeat' (first | apply And.intro | intro)
          all_goals (try first | omega | contradiction | exact Or.inl trivial | exact Or.inr trivial)
        · rw [if_pos t0] at a8
          rw [← a8] at k0
          have kk := k0 t0 ⟨p4, p5⟩ I4 (w_frt a7 f4.1) f4.2.2
          have d10 := f4.2.1
          have fin : w_T xs xl 64 35 [some (.ref 8), u, some (w_i 0), some (w_i (i + 1))] [] [] I4 J b Q := by
            refine b64_35 ?_
            try simp only [w_Ug, reduceIte, Nat.reduceEqDiff, Int.reduceEq, eq_self, d10]
            repeat' (first | apply And.intro | intro)
            all_goals (try first | omega | contradiction | exact Or.inl trivial | exact Or.inr trivial)
          refine b64_62 ?_
          try simp only [w_Ug, reduceIte, Nat.reduceEqDiff, Int.reduceEq, eq_self, if_true]
          repeat' (first | apply And.intro | intro)
          all_goals (try first | omega | contradiction | exact Or.inl trivial | exact Or.inr trivial)
  exact loop 401 0 0 z_S0 I2 _ (by decide) (by decide) (by decide) n1.1 q0 v0 z0 fr2 hR
end
