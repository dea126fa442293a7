section
/-! what matters of a state, of the code -/
variable {xs : Nat → Int32} {xl : Nat} {I J : w_I} {b : Bool} {Q : Option Value → w_I → w_I → Bool → Prop}
variable {s : Int → Int}
abbrev m_eq7 (s E : Int → Int) : Prop := ∀ k, 0 ≤ k → k < 700 → E k = s k
theorem m_wf_c {E : Int → Int} (wf : m_wf s) (h : m_eq7 s E) : m_wf E := by
  obtain ⟨w0, w1, w2, w3, w4⟩ := wf.1
  have e7 := h 7 (by omega) (by omega)
  have e8 := h 8 (by omega) (by omega)
  have ii : ∀ g, m_isF E g → m_isF s g := by
    intro g hg
    have h1 := hg.1
    have h2 := hg.2.1
    have h3 := hg.2.2
    rw [e8] at h2
    rw [h _ (by omega) (by omega)] at h3
    exact ⟨h1, h2, h3⟩
  refine ⟨⟨?_, ?_, ?_, ?_, ?_⟩, ?_, ?_, ?_⟩
  · rw [h 0 (by omega) (by omega), h 1 (by omega) (by omega), h 2 (by omega) (by omega), h 3 (by omega) (by omega), h 4 (by omega) (by omega), e7, e8, h 9 (by omega) (by omega), h 10 (by omega) (by omega)]
    exact w0
  · intro k h0 h1
    rw [h 0 (by omega) (by omega)] at h1
    rw [h _ (by omega) (by omega), h _ (by omega) (by omega)]
    exact w1 k h0 h1
  · intro k h0 h1
    rw [e7] at h1
    rw [h (100 + 6 * k) (by omega) (by omega), h (100 + 6 * k + 1) (by omega) (by omega), h (100 + 6 * k + 2) (by omega) (by omega), h (100 + 6 * k + 3) (by omega) (by omega), h (100 + 6 * k + 4) (by omega) (by omega), h (100 + 6 * k + 5) (by omega) (by omega), e8, h 9 (by omega) (by omega)]
    exact w2 k h0 h1
  · intro k h0 h1
    rw [e8] at h1
    rw [h (460 + 3 * k) (by omega) (by omega), h (460 + 3 * k + 1) (by omega) (by omega), h (460 + 3 * k + 2) (by omega) (by omega), h 0 (by omega) (by omega)]
    exact w3 k h0 h1
  · intro k h0 h1
    rw [h 10 (by omega) (by omega)] at h1
    rw [h (550 + 3 * k) (by omega) (by omega), h (550 + 3 * k + 1) (by omega) (by omega), h (550 + 3 * k + 2) (by omega) (by omega), e8, h 0 (by omega) (by omega)]
    exact w4 k h0 h1
  · intro p hp
    have h1 := hp.1
    have h2 := hp.2.1
    have h3 := hp.2.2
    rw [e7] at h2
    rw [h _ (by omega) (by omega)] at h3
    have wp := w2 p h1 h2
    rw [h (100 + 6 * p + 5) (by omega) (by omega), h _ (by omega) (by omega)]
    exact wf.2.1 p ⟨h1, h2, h3⟩
  · intro g hg
    rw [m_szc (s := s) e7 (fun i h0 h1 => ⟨h _ (by omega) (by omega), h _ (by omega) (by omega)⟩)]
    exact wf.2.2.1 g (ii g hg)
  · intro g g' hg hg' e1 e2
    have a1 := ii g hg
    have a2 := ii g' hg'
    have b1 := a1.1
    have b2 := a1.2.1
    have b3 := a2.1
    have b4 := a2.2.1
    rw [h _ (by omega) (by omega)] at e1
    rw [h _ (by omega) (by omega), h _ (by omega) (by omega)] at e2
    exact wf.2.2.2 g g' a1 a2 e1 e2
theorem c_rf_c {o : Nat} {E : Int → Int} (rf : c_rf o I s) (w : m_w0 s) (h : m_eq7 s E) : c_rf o I E := by
  obtain ⟨w0, w1, w2, w3, w4⟩ := w
  have e7 := h 7 (by omega) (by omega)
  have e8 := h 8 (by omega) (by omega)
  have dz : ∀ g, m_sz E g (-1) = m_sz s g (-1) := fun g => m_szc (s := s) e7 (fun i h0 h1 => ⟨h _ (by omega) (by omega), h _ (by omega) (by omega)⟩) g (-1)
  have dl : ∀ g, m_lm E g (-1) = m_lm s g (-1) := fun g => m_lmc (s := s) e7 (fun i h0 h1 => ⟨h _ (by omega) (by omega), h _ (by omega) (by omega), h _ (by omega) (by omega)⟩) g (-1)
  simp only [c_rf] at rf
  obtain ⟨r13, r14, r15, r16, rp, rff, rh, rm⟩ := rf
  simp only [c_rf]
  rw [e7, e8, h 9 (by omega) (by omega), h 10 (by omega) (by omega)]
  refine ⟨r13, r14, r15, r16, ?_, ?_, ?_, ?_⟩
  · intro k h0 h1
    rw [h (100 + 6 * k) (by omega) (by omega), h (100 + 6 * k + 1) (by omega) (by omega), h (100 + 6 * k + 2) (by omega) (by omega), h (100 + 6 * k + 3) (by omega) (by omega), h (100 + 6 * k + 4) (by omega) (by omega), h (100 + 6 * k + 5) (by omega) (by omega)]
    exact rp k h0 h1
  · intro g h0 h1
    rw [dz, dl, h (460 + 3 * g) (by omega) (by omega), h (460 + 3 * g + 1) (by omega) (by omega), h (460 + 3 * g + 2) (by omega) (by omega)]
    exact rff g h0 h1
  · intro h' h0 h1
    have rh' := rh h' h0 h1
    refine ⟨fun x g hg => ?_, fun x => ?_⟩
    · have g1 := hg.1
      have g2 := hg.2.1
      have g3 := hg.2.2
      rw [e8] at g2
      rw [h _ (by omega) (by omega)] at g3
      rw [h _ (by omega) (by omega)]
      exact rh'.1 x g ⟨g1, g2, g3⟩
    · obtain ⟨q1, q2⟩ := rh'.2 x
      have a1 := q1.1
      have a2 := q1.2.1
      refine ⟨⟨q1.1, by rw [e8]; exact q1.2.1, ?_⟩, ?_⟩
      · rw [h _ (by omega) (by omega)]; exact q1.2.2
      · rw [h _ (by omega) (by omega)]; exact q2
  · intro k h0 h1
    rw [h (550 + 3 * k) (by omega) (by omega), h (550 + 3 * k + 1) (by omega) (by omega), h (550 + 3 * k + 2) (by omega) (by omega)]
    exact rm k h0 h1
/-- the text's cells -/
abbrev m_eqT (s E : Int → Int) : Prop := ∀ k, (0 ≤ k ∧ k ≤ 4) ∨ (11 ≤ k ∧ k < 100) → E k = s k
theorem c_rt_c {E : Int → Int} (rt : c_rt I s) (w : m_w0 s) (h : m_eqT s E) : c_rt I E := by
  have w0 := w.1
  obtain ⟨t1, t2, t3, t4, t5, t6⟩ := rt
  have e0 := h 0 (by omega)
  refine ⟨t1.trans e0.symm, t2.trans (h 1 (by omega)).symm, t3.trans (h 2 (by omega)).symm, t4.trans (h 4 (by omega)).symm, t5.trans (h 3 (by omega)).symm, fun k x y => ?_⟩
  rw [e0] at y
  rw [h (20 + k) (by omega), h (50 + k) (by omega)]
  exact t6 k x y
/-- codes that agree where it matters -/
abbrev m_eqF (F G : m_F) : Prop := (∀ k, 0 ≤ k → k < 500 → G.1 k = F.1 k ∧ G.2.1 k = F.2.1 k) ∧ (∀ k, 0 ≤ k → k < 200 → m_ln G k = m_ln F k ∧ m_lo G k = m_lo F k ∧ m_la G k = m_la F k ∧ m_lb G k = m_lb F k ∧ m_lc G k = m_lc F k ∧ m_lr G k = m_lr F k)
theorem m_fc_c {F G : m_F} (h : m_eqF F G) {k : Int} (h0 : 0 ≤ k) (h1 : k < 500) : m_fc G k = m_fc F k := by
  obtain ⟨e1, e2⟩ := h.1 k h0 h1
  unfold m_fc m_c
  rw [e1, e2]
theorem f_ok_c {c c' : Int → Int} : ∀ (n : Nat) (k : Int) (d : Nat), (∀ i, k ≤ i → i < k + n → c' i = c i) → f_ok c n k d → f_ok c' n k d
  | 0, _, _, _, h => h
  | n + 1, k, d, hc, h => by
    have e := hc k (Int.le_refl _) (by omega)
    have hc' : ∀ i, k + 1 ≤ i → i < k + 1 + n → c' i = c i := fun i a b => hc i (by omega) (by omega)
    unfold f_ok at h ⊢
    rw [e]
    rcases h with ⟨a, b, c, d⟩ | ⟨a, b, c, d⟩ | ⟨a, b, c, d⟩
    · exact Or.inl ⟨a, b, c, f_ok_c n _ _ hc' d⟩
    · exact Or.inr (Or.inl ⟨a, b, c, f_ok_c n _ _ hc' d⟩)
    · exact Or.inr (Or.inr ⟨a, b, c, f_ok_c n _ _ hc' d⟩)
theorem m_seg_c {F G : m_F} (h : m_eqF F G) {a e : Int} (hs : m_seg F a e) : m_seg G a e := by
  obtain ⟨h1, h2, h3, h4, h5⟩ := hs
  refine ⟨h1, h2, h3, fun k x y => ?_, f_ok_c _ _ _ (fun i x y => m_fc_c h (by omega) (by omega)) h5⟩
  obtain ⟨e1, e2⟩ := h.1 k (by omega) (by omega)
  have := h4 k x y
  simp only [o_ok] at this ⊢
  rw [e1, e2]
  exact this
theorem m_lok_c {F G : m_F} (h : m_eqF F G) {k : Int} (h0 : 0 ≤ k) (h1 : k < 200) (hl : m_lok F k) : m_lok G k := by
  obtain ⟨e1, e2, e3, e4, e5, e6⟩ := h.2 k h0 h1
  obtain ⟨a, c, d, e⟩ := hl
  unfold m_lok
  rw [e1, e2, e3, e4, e5]
  exact ⟨a, c, m_seg_c h d, m_seg_c h e⟩
theorem r_rel_c {c : Int → Int} {F G : m_F} (h : m_eqF F G) {fr e : Int} (hfr : 0 ≤ fr) : ∀ (n : Nat) (k j : Int), fr ≤ k → k + n ≤ 200 → (∀ i, k ≤ i → i < k + n → m_lok F i) → r_rel c F fr n k j e → r_rel c G fr n k j e
  | 0, _, _, _, _, _, hr => hr
  | n + 1, k, j, hk, hb, hl, hr => by
    obtain ⟨j1, j2, j3, j4, h1, h2, h3, h4, h5, h6, h7, h8, h9, h10, h11⟩ := hr
    obtain ⟨e1, e2, e3, e4, e5, e6⟩ := h.2 k (by omega) (by omega)
    have ef := (h.2 fr (by omega) (by omega)).2.2.2.2.2
    obtain ⟨-, -, A, B⟩ := hl k (Int.le_refl _) (by omega)
    have A1 := A.1
    have A2 := A.2.1
    have A3 := A.2.2.1
    have B1 := B.1
    have B2 := B.2.1
    have B3 := B.2.2.1
    have mid : r_mid G fr k ↔ r_mid F fr k := by
      unfold r_mid
      constructor
      · rintro ⟨x, y⟩
        rw [e6, (h.2 (k - 1) (by omega) (by omega)).2.2.2.2.2] at y
        exact ⟨x, y⟩
      · rintro ⟨x, y⟩
        rw [e6, (h.2 (k - 1) (by omega) (by omega)).2.2.2.2.2]
        exact ⟨x, y⟩
    have lst : ((n = 0 ∨ m_lr G (k + 1) ≠ m_lr G k) ∧ m_lr G k ≠ m_lr G fr) ↔ ((n = 0 ∨ m_lr F (k + 1) ≠ m_lr F k) ∧ m_lr F k ≠ m_lr F fr) := by
      rw [e6, ef]
      by_cases hn : n = 0
      · simp only [hn, true_or]
      · rw [(h.2 (k + 1) (by omega) (by omega)).2.2.2.2.2]
    refine ⟨j1, j2, j3, j4, by rw [e3, e4, e5]; exact h1, ?_, ?_, by rw [e2]; exact h4, by rw [e1]; exact h5, by rw [e1]; exact h6, fun x => h7 (mid.mp x), fun x => h8 (fun y => x (mid.mpr y)), fun x => h9 (lst.mp x), fun x => h10 (fun y => x (lst.mpr y)), ?_⟩
    · rw [e3, e4]
      intro i x y
      rw [m_fc_c h (by omega) (by omega)]
      exact h2 i x y
    · rw [e3, e4, e5]
      intro i x y
      rw [m_fc_c h (by omega) (by omega)]
      exact h3 i x y
    · exact r_rel_c h hfr n (k + 1) j4 (by omega) (by omega) (fun i x y => hl i (by omega) (by omega)) h11
theorem c_cd_F {c5 c6 c7 : Int → Int} {F G : m_F} (cd : c_cd c5 c6 c7 F s) (h : m_eqF F G) : c_cd c5 c6 c7 G s := by
  refine ⟨fun w h0 h1 => ?_, fun r h0 h1 => ?_⟩
  · obtain ⟨a1, a2, a3, a4⟩ := cd.1 w h0 h1
    refine ⟨a1, a2, a3, ?_⟩
    rcases a4 with x | ⟨d1, d2, d3, d4⟩
    · exact Or.inl x
    · refine Or.inr ⟨d1, m_seg_c h d2, d3, fun i x y => ?_⟩
      have := d2.2.2.1
      rw [m_fc_c h (by omega) (by omega)]
      exact d4 i x y
  · obtain ⟨a1, a2, a3, a4, a5, a6, a7, a8, a9⟩ := cd.2 r h0 h1
    refine ⟨a1, a2, a3, a4, a5, a6, fun k x y => ?_, fun k x y => ?_, ?_⟩
    · obtain ⟨z1, z2, z3⟩ := a7 k x y
      rw [(h.2 k (by omega) (by omega)).2.2.2.2.2, (h.2 (s (80 + 2 * r)) (by omega) (by omega)).2.2.2.2.2]
      exact ⟨m_lok_c h (by omega) (by omega) z1, z2, z3⟩
    · rw [(h.2 k (by omega) (by omega)).2.2.2.2.2, (h.2 (k + 1) (by omega) (by omega)).2.2.2.2.2]
      exact a8 k x y
    · exact r_rel_c h a4 _ _ _ (Int.le_refl _) (by omega) (fun i x y => (a7 i x (by omega)).1) a9
theorem c_cd_c {c5 c6 c7 : Int → Int} {F : m_F} {E : Int → Int} (cd : c_cd c5 c6 c7 F s) (w : m_w0 s) (h : m_eqT s E) : c_cd c5 c6 c7 F E := by
  have w0 := w.1
  refine ⟨fun w h0 h1 => ?_, fun r h0 h1 => ?_⟩
  · rw [h (11 + 2 * w) (by omega), h (11 + 2 * w + 1) (by omega)]
    exact cd.1 w h0 h1
  · rw [h 4 (by omega)] at h1
    rw [h (80 + 2 * r) (by omega), h (80 + 2 * r + 1) (by omega)]
    exact cd.2 r h0 h1
theorem m_cd_F {F G : m_F} (cd : m_cd F s) (h : m_eqF F G) : m_cd G s := by
  refine ⟨fun w h0 h1 => ?_, fun r h0 h1 => ?_⟩
  · rcases cd.1 w h0 h1 with x | ⟨d1, d2⟩
    · exact Or.inl x
    · exact Or.inr ⟨d1, m_seg_c h d2⟩
  · obtain ⟨a4, a5, a6, a7⟩ := cd.2 r h0 h1
    refine ⟨a4, a5, a6, fun k x y => ?_⟩
    obtain ⟨z1, z2⟩ := a7 k x y
    rw [(h.2 k (by omega) (by omega)).2.2.2.2.2]
    exact ⟨m_lok_c h (by omega) (by omega) z1, z2⟩
/-- a buffer copied -/
def p192 (a : Nat) (_ : Int) : Bool := Nat.ble 110 a && Nat.ble a 120
def m_cpy (x : Int → Int) (n fr to : Int) : Int → Int := fun k => if n * to ≤ k ∧ k < n * to + n then x (n * fr + (k - n * to)) else x k
theorem s192 {fr to : Int} (hf : 0 ≤ fr ∧ fr < 4) (ht : 0 ≤ to ∧ to < 4) (hne : fr ≠ to) (h115 : ∀ k, 0 ≤ k → k < 800 → I 115 k = 0 ∨ I 115 k = 1)
    (k : ∀ I', w_fr p192 I I' → I' 110 = m_cpy (I 110) 700 fr to → I' 112 = m_cpy (I 112) 500 fr to → I' 113 = m_cpy (I 113) 500 fr to → I' 115 = m_cpy (I 115) 200 fr to → I' 116 = m_cpy (I 116) 200 fr to → I' 117 = m_cpy (I 117) 200 fr to → I' 118 = m_cpy (I 118) 200 fr to → I' 119 = m_cpy (I 119) 200 fr to → I' 120 = m_cpy (I 120) 200 fr to → Q none I' J b) : w_C xs xl 192 [.ref 104, w_i fr, w_i to] I J b Q := by
  refine e192 (b192_0 ?_)
  have lits : ∀ (m : Nat) (l3 : Int) (I1 : w_I), l3 + m = 200 → 0 ≤ l3 → w_fr p192 I I1 → I1 110 = m_cpy (I 110) 700 fr to → I1 112 = m_cpy (I 112) 500 fr to → I1 113 = m_cpy (I 113) 500 fr to →
      (∀ a, 115 ≤ a → a ≤ 120 → ∀ k, I1 a k = if 200 * to ≤ k ∧ k < 200 * to + l3 then I a (200 * fr + (k - 200 * to)) else I a k) → w_T xs xl 192 128 [some (.ref 104), some (w_i fr), some (w_i to), some (w_i l3)] [] [] I1 J b Q := by
    intro m
    induction m with
    | zero =>
      intro l3 I1 a0 a1 a2 a3 a4 a5 a6
      have e : l3 = 200 := by omega
      subst e
      have f : ∀ a, 115 ≤ a → a ≤ 120 → I1 a = m_cpy (I a) 200 fr to := fun a x y => funext (fun k => a6 a x y k)
      have kk := k I1 a2 a3 a4 a5 (f 115 (by decide) (by decide)) (f 116 (by decide) (by decide)) (f 117 (by decide) (by decide)) (f 118 (by decide) (by decide)) (f 119 (by decide) (by decide)) (f 120 (by decide) (by decide))
      refine b192_128 ?_
      try simp only [w_Ug, reduceIte, Nat.reduceEqDiff, Int.reduceEq, eq_self, if_true]
      repeat' (first | apply And.intro | intro)
      all_goals (try first | omega | contradiction | exact Or.inl trivial | exact Or.inr trivial)
    | succ m ih =>
      intro l3 I1 a0 a1 a2 a3 a4 a5 a6
      have src : ∀ a, 115 ≤ a → a ≤ 120 → I1 a (200 * fr + l3) = I a (200 * fr + l3) := fun a x y => by
        rw [a6 a x y, if_neg (by omega)]
      have h115 := h115 (200 * fr + l3) (by omega) (by omega)
      rw [← src 115 (by decide) (by decide)] at h115
      refine b192_128 ?_
      try simp only [w_Ug, reduceIte, Nat.reduceEqDiff, Int.reduceEq, eq_self, if_true]
      repeat' (first | apply And.intro | intro)
      all_goals (try first | omega | contradiction | exact Or.inl trivial | exact Or.inr trivial)
      refine ih (l3 + 1) _ (by omega) (by omega) (w_frU (w_frU (w_frU (w_frU (w_frU (w_frU a2 rfl) rfl) rfl) rfl) rfl) rfl) a3 a4 a5 (fun a x y k => ?_)
      have s1 := src a x y
      have t1 := a6 a x y k
      have key : (if k = 200 * to + l3 then I1 a (200 * fr + l3) else I1 a k) = if 200 * to ≤ k ∧ k < 200 * to + (l3 + 1) then I a (200 * fr + (k - 200 * to)) else I a k := by
        by_cases e : k = 200 * to + l3
        · rw [if_pos e, if_pos (by omega), s1, show 200 * fr + (k - 200 * to) = 200 * fr + l3 by omega]
        · rw [if_neg e, t1]
          by_cases c : 200 * to ≤ k ∧ k < 200 * to + l3
          · rw [if_pos c, if_pos (by omega)]
          · rw [if_neg c, if_neg (by omega)]
      rw [← key]
      have hc : a = 115 ∨ a = 116 ∨ a = 117 ∨ a = 118 ∨ a = 119 ∨ a = 120 := by omega
      rcases hc with rfl | rfl | rfl | rfl | rfl | rfl <;> simp only [w_Ug, reduceIte, Nat.reduceEqDiff]
  have code : ∀ (m : Nat) (l3 : Int) (I1 : w_I), l3 + m = 500 → 0 ≤ l3 → w_fr p192 I I1 → (∀ a, 115 ≤ a → a ≤ 120 → I1 a = I a) → I1 110 = m_cpy (I 110) 700 fr to →
      (∀ a, 112 ≤ a → a ≤ 113 → ∀ k, I1 a k = if 500 * to ≤ k ∧ k < 500 * to + l3 then I a (500 * fr + (k - 500 * to)) else I a k) → w_T xs xl 192 65 [some (.ref 104), some (w_i fr), some (w_i to), some (w_i l3)] [] [] I1 J b Q := by
    intro m
    induction m with
    | zero =>
      intro l3 I1 a0 a1 a2 a3 a4 a6
      have e : l3 = 500 := by omega
      subst e
      refine b192_65 ?_
      try simp only [w_Ug, reduceIte, Nat.reduceEqDiff, Int.reduceEq, eq_self, if_true]
      repeat' (first | apply And.intro | intro)
      all_goals (try first | omega | contradiction | exact Or.inl trivial | exact Or.inr trivial)
      refine lits 200 0 I1 (by omega) (by omega) a2 a4 (funext (fun k => a6 112 (by decide) (by decide) k)) (funext (fun k => a6 113 (by decide) (by decide) k)) (fun a x y k => ?_)
      rw [if_neg (by omega), a3 a x y]
    | succ m ih =>
      intro l3 I1 a0 a1 a2 a3 a4 a6
      have src : ∀ a, 112 ≤ a → a ≤ 113 → I1 a (500 * fr + l3) = I a (500 * fr + l3) := fun a x y => by
        rw [a6 a x y, if_neg (by omega)]
      refine b192_65 ?_
      try simp only [w_Ug, reduceIte, Nat.reduceEqDiff, Int.reduceEq, eq_self, if_true]
      repeat' (first | apply And.intro | intro)
      all_goals (try first | omega | contradiction | exact Or.inl trivial | exact Or.inr trivial)
      refine ih (l3 + 1) _ (by omega) (by omega) (w_frU (w_frU a2 rfl) rfl) (fun a x y => by rw [w_Ua (by omega), w_Ua (by omega)]; exact a3 a x y) a4 (fun a x y k => ?_)
      have s1 := src a x y
      have t1 := a6 a x y k
      have key : (if k = 500 * to + l3 then I1 a (500 * fr + l3) else I1 a k) = if 500 * to ≤ k ∧ k < 500 * to + (l3 + 1) then I a (500 * fr + (k - 500 * to)) else I a k := by
        by_cases e : k = 500 * to + l3
        · rw [if_pos e, if_pos (by omega), s1, show 500 * fr + (k - 500 * to) = 500 * fr + l3 by omega]
        · rw [if_neg e, t1]
          by_cases c : 500 * to ≤ k ∧ k < 500 * to + l3
          · rw [if_pos c, if_pos (by omega)]
          · rw [if_neg c, if_neg (by omega)]
      rw [← key]
      have hc : a = 112 ∨ a = 113 := by omega
      rcases hc with rfl | rfl <;> simp only [w_Ug, reduceIte, Nat.reduceEqDiff]
  have cells : ∀ (m : Nat) (l3 : Int) (I1 : w_I), l3 + m = 700 → 0 ≤ l3 → (∀ a, a ≠ 110 → I1 a = I a) →
      (∀ k, I1 110 k = if 700 * to ≤ k ∧ k < 700 * to + l3 then I 110 (700 * fr + (k - 700 * to)) else I 110 k) → w_T xs xl 192 2 [some (.ref 104), some (w_i fr), some (w_i to), some (w_i l3)] [] [] I1 J b Q := by
    intro m
    induction m with
    | zero =>
      intro l3 I1 a0 a1 a2 a3
      have e : l3 = 700 := by omega
      subst e
      refine b192_2 ?_
      try simp only [w_Ug, reduceIte, Nat.reduceEqDiff, Int.reduceEq, eq_self, if_true]
      repeat' (first | apply And.intro | intro)
      all_goals (try first | omega | contradiction | exact Or.inl trivial | exact Or.inr trivial)
      refine code 500 0 _ (by omega) (by omega) (w_frU (w_frU (fun a k e => ?_) rfl) rfl) (fun a x y => by rw [w_Ua (by omega), w_Ua (by omega)]; exact a2 a (by omega)) (funext (fun k => a3 k)) (fun a x y k => ?_)
      · rw [a2 a (fun h => by subst h; cases e)]
      · rw [if_neg (by omega), w_Ua (by omega), w_Ua (by omega), a2 a (by omega)]
    | succ m ih =>
      intro l3 I1 a0 a1 a2 a3
      have src : I1 110 (700 * fr + l3) = I 110 (700 * fr + l3) := by
        rw [a3, if_neg (by omega)]
      refine b192_2 ?_
      try simp only [w_Ug, reduceIte, Nat.reduceEqDiff, Int.reduceEq, eq_self, if_true]
      repeat' (first | apply And.intro | intro)
      all_goals (try first | omega | contradiction | exact Or.inl trivial | exact Or.inr trivial)
      refine ih (l3 + 1) _ (by omega) (by omega) (fun a x => by rw [w_Ua x]; exact a2 a x) (fun k => ?_)
      rw [w_Ug, if_pos rfl]
      by_cases e : k = 700 * to + l3
      · rw [if_pos e, if_pos (by omega), src, show 700 * fr + (k - 700 * to) = 700 * fr + l3 by omega]
      · rw [if_neg e, a3]
        by_cases c : 700 * to ≤ k ∧ k < 700 * to + l3
        · rw [if_pos c, if_pos (by omega)]
        · rw [if_neg c, if_neg (by omega)]
  exact cells 700 0 I (by omega) (by omega) (fun _ _ => rfl) (fun k => by rw [if_neg (by omega)])
end
