section
/-! years: the class, sorting, the years -/
variable {xs : Nat → Int32} {xl : Nat} {I J : w_I} {b : Bool} {Q : Option Value → w_I → w_I → Bool → Prop}
variable {s : Int → Int}
def p48 (a : Nat) (k : Int) : Bool := a == 28 || a == 30 || (a == 103 && k == 3)
theorem p48_y {I I' : w_I} (h : w_fr p48 I I') : w_fr py I I' := w_frm h (fun a k e => by
  simp only [py, py0, pF, Bool.or_eq_false_iff, Bool.and_eq_false_iff, beq_eq_false_iff_ne, ne_eq, ble_f] at e
  simp only [p48, Bool.or_eq_false_iff, Bool.and_eq_false_iff, beq_eq_false_iff_ne, ne_eq]
  omega)
theorem c48L {c c' n : Int} {r : Int → Int} {rk : Int → Int} {I0 : w_I} (rf : c_rf 20 I0 s) (wf : m_wf s) (hc : m_cm s c') (hr : r_ok n r (m_S s c') rk) (hn : n ≤ s 0) (hcc : w_in c) (hne : ∀ i, 0 ≤ i → i < n → (r i = c ↔ m_hm s (r i) < 0))
    (h6 : I0 78 6 = n) (h84 : ∀ i, 0 ≤ i → i < n → I0 84 i = r i) (h3 : 0 ≤ I0 103 3 ∧ I0 103 3 ≤ 100000) (g1 : ∀ a, a ≠ 30 → I a = I0 a) (z1 : ∀ x, 0 ≤ x → x < 24 → I 30 x = -1)
    (k : ∀ I', w_fr p48 I0 I' → c_rf 20 I' (m_setN s r (y_gS s n) n.toNat) → I' 103 3 = I0 103 3 + y_ct s n r n.toNat → Q none I' J b) {u4 : Option Value} : w_T xs xl 48 79 [some (.ref 103), some (w_i c), some (w_i (s 0 - n)), some (w_i 0), u4] [] [] I J b Q := by
  have w0 := wf.1.1
  have n0 := hr.1
  have hg := y_gS_up (s := s) n0 hn
  have loop : ∀ (m i : Nat) (u4 : Option Value) (I2 : w_I), (i : Int) + m = n → (∀ a, a ≠ 28 → a ≠ 30 → a ≠ 103 → I2 a = I0 a) → (∀ k, k ≠ 3 → I2 103 k = I0 103 k) → I2 103 3 = I0 103 3 + y_ct s n r i → (∀ j : Nat, j < i → I2 28 (r j) = y_gS s n j) → (∀ f, (∀ j : Nat, j < i → r j ≠ f) → I2 28 f = I0 28 f) → (∀ j : Nat, j < i → I2 30 (y_gS s n j) = r j) → (∀ x, 0 ≤ x → x < 24 → (∀ j : Nat, j < i → y_gS s n j ≠ x) → I2 30 x = -1) →
      w_T xs xl 48 79 [some (.ref 103), some (w_i c), some (w_i (s 0 - n)), some (w_i i), u4] [] [] I2 J b Q := by
    intro m
    induction m with
    | zero =>
      intro i u4 I2 a0 a2 a2' a2'' a3 a4 a5 a6
      have n2 : I2 78 6 = n := by rw [a2 78 (by decide) (by decide) (by decide)]; exact h6
      have fr2 : w_fr p48 I0 I2 := fun a k e => by
        simp only [p48, Bool.or_eq_false_iff, Bool.and_eq_false_iff, beq_eq_false_iff_ne, ne_eq] at e
        by_cases x : a = 103
        · subst x; exact a2' k (by omega)
        · rw [a2 a e.1.1 e.1.2 x]
      have kk := k I2 fr2 (c_rf_set rf wf hc hr hg (fun a x y z w => a2 a z w (by omega)) (fun j hj => a3 j (by omega)) (fun f hf => a4 f (fun j hj => hf j (by omega) (by omega))) (fun j hj => a5 j (by omega)) (fun x h0 h1 hx => a6 x h0 h1 (fun j hj => hx j (by omega)))) (by rw [a2'', show n.toNat = i by omega])
      refine b48_79 ?_
      try simp only [w_Ug, reduceIte, Nat.reduceEqDiff, Int.reduceEq, eq_self, n2]
      repeat' (first | apply And.intro | intro)
      all_goals (try first | omega | contradiction | exact Or.inl trivial | exact Or.inr trivial)
    | succ m ih =>
      intro i u4 I2 a0 a2 a2' a2'' a3 a4 a5 a6
      have n2 : I2 78 6 = n := by rw [a2 78 (by decide) (by decide) (by decide)]; exact h6
      have x84 : I2 84 i = r i := by rw [a2 84 (by decide) (by decide) (by decide)]; exact h84 i (by omega) (by omega)
      have inS := hr.2.1 i (by omega) (by omega)
      have fb := m_S_in hc _ inS
      have gb := hg.1 i (by omega)
      have hF := m_S_F hc _ inS
      have x28 : I2 28 (r i) = m_hm s (r i) := by rw [a4 (r i) (fun j hj => r_ok_ne hr (by omega) (by omega) (by omega))]; exact c_hm rf wf hF
      have hb := m_hm_b wf.1 hF
      have hne := hne i (by omega) (by omega)
      have cb := y_ct_b (s := s) (n := n) (r := r) i
      have cs : y_ct s n r (i + 1) = y_ct s n r i + if 0 ≤ m_hm s (r i) ∧ m_hm s (r i) ≠ s 0 - n + i then 1 else 0 := rfl
      have nxt : ∀ (u4 : Option Value) (I3 : w_I), (∀ a, a ≠ 103 → I3 a = I2 a) → (∀ k, k ≠ 3 → I3 103 k = I2 103 k) → I3 103 3 = I0 103 3 + y_ct s n r (i + 1) → w_T xs xl 48 79 [some (.ref 103), some (w_i c), some (w_i (s 0 - n)), some (w_i (i + 1)), u4] [] [] (w_U (w_U I3 28 (r i) (s 0 - n + i)) 30 (s 0 - n + i) (r i)) J b Q := by
        intro u4 I3 b1 b2 b3
        rw [show (i : Int) + 1 = ((i + 1 : Nat) : Int) by omega]
        have e28 : I3 28 = I2 28 := b1 28 (by decide)
        have e30 : I3 30 = I2 30 := b1 30 (by decide)
        refine ih (i + 1) _ _ (by omega) (fun a x y z => by rw [w_Ua y, w_Ua x, b1 a z]; exact a2 a x y z) (fun k hk => by rw [w_Ua (by decide), w_Ua (by decide), b2 k hk]; exact a2' k hk) (by rw [w_Ua (by decide), w_Ua (by decide)]; exact b3) (fun j hj => ?_) (fun f hf => ?_) (fun j hj => ?_) (fun x h0 h1 hx => ?_)
        · simp only [w_Ug, reduceIte, Nat.reduceEqDiff]
          by_cases e : j = i
          · subst e; rw [if_pos rfl]; rfl
          · rw [if_neg (r_ok_ne hr (by omega) (by omega) (by omega)), e28]
            exact a3 j (by omega)
        · simp only [w_Ug, reduceIte, Nat.reduceEqDiff]
          rw [if_neg (fun e => hf i (by omega) e.symm), e28]
          exact a4 f (fun j hj => hf j (by omega))
        · simp only [w_Ug, reduceIte, Nat.reduceEqDiff]
          by_cases e : j = i
          · subst e; rw [if_pos (show y_gS s n j = s 0 - n + j from rfl)]
          · rw [if_neg (by unfold y_gS; omega), e30]
            exact a5 j (by omega)
        · simp only [w_Ug, reduceIte, Nat.reduceEqDiff]
          have := hx i (by omega)
          rw [if_neg (fun e => this (by unfold y_gS; exact e.symm)), e30]
          exact a6 x h0 h1 (fun j hj => hx j (by omega))
      have same : ¬ (0 ≤ m_hm s (r i) ∧ m_hm s (r i) ≠ s 0 - n + i) → ∀ u4, w_T xs xl 48 79 [some (.ref 103), some (w_i c), some (w_i (s 0 - n)), some (w_i (i + 1)), u4] [] [] (w_U (w_U I2 28 (r i) (s 0 - n + i)) 30 (s 0 - n + i) (r i)) J b Q := fun h u4 => nxt u4 I2 (fun _ _ => rfl) (fun _ _ => rfl) (by rw [cs, if_neg h, a2'']; omega)
      have more : (0 ≤ m_hm s (r i) ∧ m_hm s (r i) ≠ s 0 - n + i) → ∀ u4, w_T xs xl 48 79 [some (.ref 103), some (w_i c), some (w_i (s 0 - n)), some (w_i (i + 1)), u4] [] [] (w_U (w_U (w_U I2 103 3 (I2 103 3 + 1)) 28 (r i) (s 0 - n + i)) 30 (s 0 - n + i) (r i)) J b Q := fun h u4 => nxt u4 _ (fun a ha => w_Ua ha) (fun k hk => by rw [w_Ug, if_pos rfl, if_neg hk]) (by rw [w_Ug, if_pos rfl, if_pos rfl, cs, if_pos h, a2'']; omega)
      unfold y_gS at gb
      generalize hhm : m_hm s (r i) = H at *
      generalize hri : r i = R at *
      refine b48_79 ?_
      try simp only [w_Ug, reduceIte, Nat.reduceEqDiff, Int.reduceEq, eq_self, n2, x84, x28]
      repeat' (first | apply And.intro | intro)
      all_goals (try first | omega | contradiction | exact Or.inl trivial | exact Or.inr trivial)
      · exact same (by omega) _
      · exact same (by omega) _
      · exact more (by omega) _
  refine loop n.toNat 0 u4 I (by omega) (fun a _ x _ => g1 a x) (fun k _ => by rw [g1 103 (by decide)]) ?_ (fun j hj => by omega) (fun f _ => by rw [g1 28 (by decide)]) (fun j hj => by omega) (fun x h0 h1 _ => z1 x h0 h1)
  rw [g1 103 (by decide)]
  show _ = I0 103 3 + 0
  omega
theorem c48 {c p : Int} (rf : c_rf 20 I s) (rt : c_rt I s) (wf : m_wf s) (hc : y_cp s c p) (h3 : 0 ≤ I 103 3 ∧ I 103 3 ≤ 100000)
    (k : ∀ I' s' mv, w_fr py I I' → y_st s c p s' mv → c_rf 20 I' s' → I' 103 3 = I 103 3 + mv → Q none I' J b) : w_C xs xl 48 [.ref 103, w_i c] I J b Q := by
  have w := wf.1
  have w0 := w.1
  have cb : w_in c := by
    rcases hc with x | x
    · rw [x.1]; decide
    · have := x.1.1.1; have := x.1.1.2.1; exact ⟨by omega, by omega⟩
  refine e48 (b48_0 ?_)
  refine c21 rf rt wf (fun I1 f1 z1 => b48_7 ?_)
  have fr1 := pA_fr f1
  have rf1 := pA_rf fr1 rf
  have rt1 := pA_rt fr1 rt
  have kb : ∀ g, 0 ≤ m_kf s (s 1) g ∧ m_kf s (s 1) g < 1000 := fun g => by
    have := m_kf_b w (st := s 1) (g := g) (by omega)
    omega
  refine c23 (c := c) (kf := m_kf s (s 1)) rf1 rt1 wf (fun g x y => ⟨(z1 g x y).2, kb g⟩) (y_cp_m hc) (fun n I2 fr2 n2 nb r2 => ?_)
  have n0 := r2.1
  have f2 := w_frt (pA_y fr1) (p24_y fr2)
  have rf2 : c_rf 20 I2 s := c_rf_fr (fun x h1 h2 => w_frA fr2 (fun k => by
    simp only [p24, Bool.or_eq_false_iff, Bool.and_eq_false_iff, beq_eq_false_iff_ne, ne_eq]
    omega)) rf1
  have rt2 := py0_rt f2 rt
  have t5 : I2 2 5 = s 0 := rt2.1
  have m3 : I2 103 3 = I 103 3 := f2 103 3 rfl
  by_cases hn : n ≤ s 0
  · refine b48_15 ?_
    try simp only [w_Ug, reduceIte, Nat.reduceEqDiff, Int.reduceEq, eq_self, t5, n2]
    repeat' (first | apply And.intro | intro)
    all_goals (try first | omega | contradiction | exact Or.inl trivial | exact Or.inr trivial)
    refine e3 (b3_0 (f295_30 (fun I3 g3 z3 => b3_8 (b48_77 ?_))))
    refine c48L (c' := c) rf2 wf (y_cp_m hc) r2 hn cb (fun i x y => ?_) n2 (fun _ _ _ => rfl) (by omega) g3 z3 (fun I4 fr4 r4 e4 => ?_)
    · have inS := r2.2.1 i x y
      rcases hc with hc' | hc'
      · rcases inS with z | z
        · have hz := m_hm s (I2 84 i)
          have e : m_hm s (I2 84 i) = s (460 + 3 * I2 84 i + 1) := by unfold m_hm; rw [if_neg (by have := z.2; omega)]
          have := z.1.1
          have := z.2
          rw [e]
          omega
        · omega
      · have ec : m_hm s c = -1 := by unfold m_hm; rw [if_pos (by have := hc'.1.2; omega)]
        constructor
        · intro e; rw [e, ec]; decide
        · intro e
          rcases inS with z | z
          · have e2 : m_hm s (I2 84 i) = s (460 + 3 * I2 84 i + 1) := by unfold m_hm; rw [if_neg (by have := z.2; omega)]
            have := z.2
            omega
          · exact z.1
    · have f4 := w_frt (py0_y f2) (p48_y fr4)
      refine k I4 _ _ f4 ?_ r4 (e4.trans (by rw [m3]))
      by_cases x : c = -1
      · subst x
        exact ⟨n, I2 84, r2, Or.inl ⟨rfl, rfl, rfl⟩⟩
      · have cF : m_isF s c ∧ s (460 + 3 * c + 1) = -2 := by
          rcases y_cp_m hc with z | z
          · exact absurd z x
          · exact z
        obtain ⟨r', hr'⟩ := r_del (c := c) (S' := m_S s (-1)) r2 (Or.inr ⟨rfl, x⟩) (fun f => by
          unfold m_S
          constructor
          · rintro (z | z)
            · exact ⟨Or.inl z, fun e => by subst e; have := z.2; omega⟩
            · exact absurd rfl z.2
          · rintro ⟨z | z, y⟩
            · exact Or.inl z
            · exact absurd z.1 y)
        refine ⟨n - 1, r', hr', Or.inr (Or.inr ⟨x, by omega, I2 84, ?_, ?_⟩)⟩
        · rw [show n - 1 + 1 = n by omega]; exact r2
        · rw [show n - 1 + 1 = n by omega]; exact ⟨rfl, rfl⟩
  · have x : c ≠ -1 := fun x => by
      subst x
      have := m_row_b wf r2
      omega
    have cF : m_isF s c ∧ s (460 + 3 * c + 1) = -2 := by
      rcases y_cp_m hc with z | z
      · exact absurd z x
      · exact z
    have hpP : m_isP s p := by
      rcases hc with z | z
      · exact absurd z.1 x
      · exact z.2.1
    have hpf : s (100 + 6 * p + 5) = c := by
      rcases hc with z | z
      · exact absurd z.1 x
      · exact z.2.2.1
    obtain ⟨r', hr'⟩ := r_del (c := c) (S' := m_S s (-1)) r2 (Or.inr ⟨rfl, x⟩) (fun f => by
      unfold m_S
      constructor
      · rintro (z | z)
        · exact ⟨Or.inl z, fun e => by subst e; have := z.2; omega⟩
        · exact absurd rfl z.2
      · rintro ⟨z | z, y⟩
        · exact Or.inl z
        · exact absurd z.1 y)
    have nb' := m_row_b wf hr'
    have en : n - 1 = s 0 := by omega
    rw [en] at hr'
    refine b48_15 ?_
    try simp only [w_Ug, reduceIte, Nat.reduceEqDiff, Int.reduceEq, eq_self, t5, n2]
    repeat' (first | apply And.intro | intro)
    all_goals (try first | omega | contradiction | exact Or.inl trivial | exact Or.inr trivial)
    refine c44 rf2 wf hc x (fun I3 fr3 r3 => b48_40 ?_)
    have D := y_K_die wf hpP
    have w1 := D.1.1
    have f3 := w_frt f2 (pF_y fr3)
    have rt3 : c_rt I3 (m_die s p) := c_rt_c (py0_rt f3 rt) w D.1.2.1
    have d8 := D.2.2
    have d0 := D.1.2.1 0 (by omega)
    refine c23 (c := -1) (kf := m_kf s (s 1)) r3 rt3 w1 (fun g x y => ⟨?_, kb g⟩) (Or.inl rfl) (fun n1 I4 fr4 n4 nb4 r4 => b48_48 ?_)
    · rw [fr3 83 g rfl, fr2 83 g rfl]
      exact (z1 g x (by rw [← d8]; exact y)).2
    have f4 := w_frt f3 (p24_y fr4)
    have rf4 : c_rf 20 I4 (m_die s p) := c_rf_fr (fun x h1 h2 => w_frA fr4 (fun k => by
      simp only [p24, Bool.or_eq_false_iff, Bool.and_eq_false_iff, beq_eq_false_iff_ne, ne_eq]
      omega)) r3
    have r5 := r_rk (r_ext r4 (fun _ _ _ => rfl) (y_die_S wf hc x)) (rk' := m_rk s (m_kf s (s 1))) (fun f hf => by
      rcases hf with hf | hf
      · have := m_die_fam wf hpP (f := f) (fun e => by rw [e, hpf] at hf; have := hf.2; omega) hf.1.1
        unfold m_rk m_ps
        rw [this.2.2]
      · exact absurd rfl hf.2)
    obtain ⟨u1', u2'⟩ := r_uniq r5 hr' (m_S_inj wf (Or.inl rfl) (fun g _ => by have := kb g; omega))
    subst u1'
    have m4 : I4 103 3 = I 103 3 := f4 103 3 rfl
    refine e3 (b3_0 (f295_30 (fun I5 g5 z5 => b3_8 ?_)))
    have t54 : I4 2 5 = s 0 := (py0_rt f4 rt).1
    rw [t54, n4]
    refine b48_77 ?_
    have LL := c48L (s := m_die s p) (I := I5) (J := J) (b := b) (Q := Q) (xs := xs) (xl := xl) (c := c) (c' := -1) rf4 w1 (Or.inl rfl) r4 (by omega) cb (fun i x y => ?_) n4 (fun _ _ _ => rfl) (by omega) g5 z5 (fun I6 fr6 r6 e6 => ?_) (u4 := none)
    · rw [d0] at LL
      exact LL
    · have inS := r4.2.1 i x y
      have inS' := (y_die_S wf hc ‹c ≠ -1› _).mp inS
      rcases inS with z | z
      · rcases inS' with z' | z'
        · have e : m_hm (m_die s p) (I4 84 i) = m_die s p (460 + 3 * I4 84 i + 1) := by unfold m_hm; rw [if_neg (by have := z.2; omega)]
          have := z.2
          constructor
          · intro e'; rw [e'] at z'; have := z'.2; omega
          · intro e'; omega
        · exact absurd rfl z'.2
      · exact absurd rfl z.2
    · have f6 := w_frt (py0_y f4) (p48_y fr6)
      refine k I6 _ _ f6 ⟨s 0, I4 84, r5, Or.inr (Or.inl ⟨‹c ≠ -1›, rfl, rfl, rfl⟩)⟩ r6 (e6.trans (by rw [m4]))
end
