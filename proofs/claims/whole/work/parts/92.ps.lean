section
/-! part: the reference tries a set -/
variable {xs : Nat → Int32} {xl : Nat} {I J : w_I} {b : Bool} {Q : Option Value → w_I → w_I → Bool → Prop}
variable {s : Int → Int}
def p257 (a : Nat) (k : Int) : Bool := a == 137 || a == 128 || (a == 104 && (k == 50 || k == 36)) || pL a k
theorem p257_J {I I' : w_I} (h : w_fr p257 I I') : w_fr pJ I I' := w_frm h (fun a k e => by
  simp only [pJ, p257, pL, pC, p205, Bool.or_eq_false_iff, Bool.and_eq_false_iff, beq_eq_false_iff_ne, ne_eq, ble_f, decide_eq_false_iff_not] at e ⊢
  omega)
theorem pL_257 {I I' : w_I} (h : w_fr pL I I') : w_fr p257 I I' := w_frm h (fun a k e => by
  simp only [p257, Bool.or_eq_false_iff] at e
  exact e.2)
theorem a_lt_fr {I I' : w_I} (h : w_fr p257 I I') (lt : a_lt I s) : a_lt I' s := by
  unfold a_lt
  rw [h 104 46 rfl, w_frA (a := 134) h (fun _ => rfl), w_frA (a := 136) h (fun _ => rfl)]
  exact lt
/-- the row as the reference has it -/
def a_o (I : w_I) (q : Int) : Int := I 134 (I 136 q)
def a_ch (S : Int) (ix : Int → Int) (q : Int) : Bool := decide (bt S (ix q) = 1)
set_option maxHeartbeats 2000000 in
theorem s257 {F : m_F} {S sd : Int} (hs : I 110 = s) (hF : m_at I F) (wf : m_wf s) (cd : m_cd F s) (lt : a_lt I s) (hM : a_ri s (s 0) ≤ 12) (hS : 0 ≤ S ∧ S < pw2 (a_ri s (s 0))) (hd : sd = 1 ∨ sd = 2)
    (k : ∀ I' v, w_fr p257 I I' → ((a_g (a_lv s sd (s 0)) (a_sv s (a_o I) sd) (a_ch S (a_ix s (a_o I))) (a_ri s (s 0)).toNat 0 0 ≤ 12 ∧ v = a_g (a_lv s sd (s 0)) (a_sv s (a_o I) sd) (a_ch S (a_ix s (a_o I))) (a_ri s (s 0)).toNat 0 0) ∨ (1000 ≤ a_g (a_lv s sd (s 0)) (a_sv s (a_o I) sd) (a_ch S (a_ix s (a_o I))) (a_ri s (s 0)).toNat 0 0 ∧ v = 100000000)) → Q (some (w_i v)) I' J b) : w_C xs xl 257 [.ref 104, w_i S, w_i sd] I J b Q := by
  have w := wf.1
  have w0 := w.1
  have ri0 := a_ri_b (s := s) (h := s 0) (by omega)
  have lvb := a_lv_b (s := s) (sd := sd) (h := s 0) (by omega)
  have pm := pw2_le (j := a_ri s (s 0)) (by omega)
  obtain ⟨t1, t2, t3, t4⟩ := lt
  have oS : ∀ q, 0 ≤ q → q < a_ri s (s 0) → a_S s (a_o I q) := fun q x y => t3.2.1 q x y
  have o6 : ∀ q, 0 ≤ q → q < a_ri s (s 0) → I 136 q = a_ix s (a_o I) q := t4
  have svb : ∀ q, 0 ≤ q → q < a_ri s (s 0) → -1 ≤ a_sv s (a_o I) sd q ∧ a_sv s (a_o I) sd q < a_lv s sd (s 0) := fun q x y => a_sv_b (oS q x y)
  have ixb : ∀ q, 0 ≤ q → q < a_ri s (s 0) → 0 ≤ a_ix s (a_o I) q ∧ a_ix s (a_o I) q < a_ri s (s 0) := fun q x y => by
    have z := oS q x y
    have := a_ri_b (s := s) (h := a_o I q) z.1.1
    have := a_ri_lt z.1.1 z.1.2 z.2
    unfold a_ix
    omega
  generalize ho : a_o I = o at *
  have sel : ∀ q, 0 ≤ q → q < a_ri s (s 0) → w_and (w_shr S (a_ix s o q)) 1 = bt S (a_ix s o q) := fun q x y => by
    have := ixb q x y
    rw [w_shr_d (by omega) (by omega), w_and1]
    rfl
  generalize hc : a_ch S (a_ix s o) = c at *
  have cv : ∀ q, c q = true ↔ bt S (a_ix s o q) = 1 := fun q => by
    rw [← hc]
    unfold a_ch
    exact decide_eq_true_iff
  generalize hN : (a_ri s (s 0)).toNat = N at *
  have hN' : (N : Int) = a_ri s (s 0) := by omega
  have rowsb := fun q : Nat => a_n_b (c := c) q
  -- what holds of the places
  have gw : ∀ hm : Int → Int, (∀ q : Nat, q < N → c q = true → hm (a_n c q) = a_sv s o sd q) → (a_n c N ≤ a_lv s sd (s 0) → a_g (a_lv s sd (s 0)) (a_sv s o sd) c N 0 0 = a_n c N - l_w (fun i => hm i - i) (a_lv s sd (s 0) - a_n c N) (a_n c N).toNat 0 0) ∧ (a_lv s sd (s 0) < a_n c N → 1000 ≤ a_g (a_lv s sd (s 0)) (a_sv s o sd) c N 0 0) := by
    intro hm hh
    have z := a_g_w (T := a_lv s sd (s 0)) (n := a_n c N) (lv := a_sv s o sd) (hm := hm) (c := c) (M := N) rfl hh (fun q hq => (svb q (by omega) (by omega)).2) (by omega) N 0 0 (by omega) lvb.1
    rw [show a_n c 0 = 0 from rfl] at z
    rw [Int.zero_add, Int.sub_zero, Int.sub_zero] at z
    exact z
  -- the last stage
  have last : ∀ (I1 : w_I) (u1 u2 : Option Value), w_fr p257 I I1 → I1 104 36 = a_n c N → I1 104 50 = a_lv s sd (s 0) → a_n c N ≤ a_lv s sd (s 0) → (∀ q : Nat, q < N → c q = true → I1 128 (a_n c q) = a_sv s o sd q) → (∀ i, 0 ≤ i → i < a_n c N → -1 ≤ I1 128 i ∧ I1 128 i < 100) →
      w_T xs xl 257 186 [some (.ref 104), u1, u2, some (w_i 0), some (w_i 0)] [] [] I1 J b Q := by
    intro I1 u1 u2 f1 e36 e50 hle h8 hb8
    have hs1 : I1 110 = s := (w_frA f1 (fun _ => rfl)).trans hs
    have hF1 := pJ_F (p257_J f1) hF
    have nb := rowsb N
    have loop : ∀ (m : Nat) (l3 l4 : Int), l4 + m = a_n c N → 0 ≤ l4 → 0 ≤ l3 → l3 ≤ l4 → l3 + m - l_ct (I1 128) m l4 = a_n c N - l_ct (I1 128) (a_n c N).toNat 0 → w_T xs xl 257 186 [some (.ref 104), u1, u2, some (w_i l3), some (w_i l4)] [] [] I1 J b Q := by
      intro m
      induction m with
      | zero =>
        intro l3 l4 a0 a1 a2 a2' a3
        have e : l_ct (I1 128) 0 l4 = 0 := rfl
        rw [e] at a3
        refine b257_186 ?_
        try simp only [w_Ug, reduceIte, Nat.reduceEqDiff, Int.reduceEq, eq_self, e36]
        repeat' (first | apply And.intro | intro)
        all_goals (try first | omega | contradiction | exact Or.inl trivial | exact Or.inr trivial)
        rw [e50]
        refine s243z hs1 hF1 w cd e36 (by omega) hb8 (fun I2 f2 t2 => ?_)
        have ew := (l_D_w (s := s) (F := F) (hm := I1 128) (ag := I1 129) (sz := I1 130) (lm := I1 131) (n := a_n c N) (H := a_lv s sd (s 0)) (by omega) (fun i x y => (hb8 i x y).1)).2 hle
        have db := l_D_b (pay := m_pay F s 0 (I1 128) (I1 129) (I1 130) (I1 131)) (H := a_lv s sd (s 0)) (a_n c N).toNat 0 (fun i h _ _ _ _ => m_pay_b) (a_lv s sd (s 0)).toNat (by omega)
        rw [ew] at db ⊢
        have g1 := (gw (I1 128) h8).1 hle
        have wb := l_w_b (x := fun i => I1 128 i - i) (sl := a_lv s sd (s 0) - a_n c N) (a_n c N).toNat 0 0
        have kk := k I2 (a_n c N - l_w (fun i => I1 128 i - i) (a_lv s sd (s 0) - a_n c N) (a_n c N).toNat 0 0) (w_frt f1 (pL_257 f2)) (Or.inl ⟨by omega, g1.symm⟩)
        generalize l_w (fun i => I1 128 i - i) (a_lv s sd (s 0) - a_n c N) (a_n c N).toNat 0 0 = W at kk db ⊢ wb g1
        generalize l_ct (I1 128) (a_n c N).toNat 0 = C at db ⊢ a3
        rw [show a_n c N - W = 1000000 * (C - W) / 1000000 + l3 by omega] at kk
        refine b257_228 ?_
        try simp only [w_Ug, reduceIte, Nat.reduceEqDiff, Int.reduceEq, eq_self, if_true]
        repeat' (first | apply And.intro | intro)
        all_goals (try first | omega | contradiction | exact Or.inl trivial | exact Or.inr trivial)
      | succ m ih =>
        intro l3 l4 a0 a1 a2 a2' a3
        have e : l_ct (I1 128) (m + 1) l4 = (if I1 128 l4 < 0 then 0 else 1) + l_ct (I1 128) m (l4 + 1) := rfl
        rw [e] at a3
        have h4 := hb8 l4 a1 (by omega)
        refine b257_186 ?_
        try simp only [w_Ug, reduceIte, Nat.reduceEqDiff, Int.reduceEq, eq_self, e36]
        repeat' (first | apply And.intro | intro)
        all_goals (try first | omega | contradiction | exact Or.inl trivial | exact Or.inr trivial)
        · rename_i x
          rw [if_neg (by omega)] at a3
          exact ih _ (l4 + 1) (by omega) (by omega) (by omega) (by omega) (by omega)
        · rename_i x
          rw [if_pos (by omega)] at a3
          exact ih _ (l4 + 1) (by omega) (by omega) (by omega) (by omega) (by omega)
    exact loop (a_n c N).toNat 0 0 (by omega) (by omega) (by omega) (by omega) (by omega)
  -- who is in the set
  have rows : ∀ (m q : Nat) (u2 u4 : Option Value) (I1 : w_I), q + m = N → w_fr p257 I I1 → I1 104 36 = a_n c q → I1 104 50 = a_lv s sd (s 0) → (∀ x, a_S s x ∨ (0 ≤ x ∧ x < s 0) → s (20 + x) = sd → I1 137 (a_lv s sd x) = x) → (∀ j, 0 ≤ j → j < a_lv s sd (s 0) → (0 ≤ I1 137 j ∧ I1 137 j < s 0) ∧ s (20 + I1 137 j) = sd ∧ a_lv s sd (I1 137 j) = j) → (∀ q' : Nat, q' < q → c q' = true → I1 128 (a_n c q') = a_sv s o sd q') → (∀ i, 0 ≤ i → i < a_n c q → -1 ≤ I1 128 i ∧ I1 128 i < 100) →
      w_T xs xl 257 66 [some (.ref 104), some (w_i S), u2, some (w_i q), u4] [] [] I1 J b Q := by
    intro m
    induction m with
    | zero =>
      intro q u2 u4 I1 a0 a1 a2 a3 a4 a5 a6 a7
      have e : q = N := by omega
      subst e
      have e46 : I1 104 46 = q := by rw [a1 104 46 rfl]; omega
      have nb := rowsb q
      have kk := fun x => k I1 100000000 a1 (Or.inr ⟨(gw (I1 128) a6).2 x, rfl⟩)
      refine b257_66 ?_
      try simp only [w_Ug, reduceIte, Nat.reduceEqDiff, Int.reduceEq, eq_self, e46]
      repeat' (first | apply And.intro | intro)
      all_goals (try first | omega | contradiction | exact Or.inl trivial | exact Or.inr trivial)
      · exact last I1 _ _ a1 a2 a3 (by omega) a6 a7
      · exact kk (by omega)
    | succ m ih =>
      intro q u2 u4 I1 a0 a1 a2 a3 a4 a5 a6 a7
      have e46 : I1 104 46 = a_ri s (s 0) := by rw [a1 104 46 rfl]; omega
      have nb := rowsb q
      have e136 : I1 136 q = a_ix s o q := by rw [a1 136 _ rfl]; exact o6 q (by omega) (by omega)
      have ixq := ixb q (by omega) (by omega)
      have sq := sel q (by omega) (by omega)
      have bq := bt_b S (a_ix s o q)
      have cq := cv q
      have ns := a_n_s (c := c) (k := q)
      by_cases c1 : bt S (a_ix s o q) = 1
      · have cq := cq.mpr c1
        rw [if_pos cq] at ns
        have z := oS q (by omega) (by omega)
        have sv := svb q (by omega) (by omega)
        refine b257_66 ?_
        try simp only [w_Ug, reduceIte, Nat.reduceEqDiff, Int.reduceEq, eq_self, e46, e136, sq]
        repeat' (first | apply And.intro | intro)
        all_goals (try first | omega | contradiction | exact Or.inl trivial | exact Or.inr trivial)
        have inner : ∀ (j : Nat) (l4 : Int) (I2 : w_I), l4 + j = a_lv s sd (s 0) → 0 ≤ l4 → (∀ a, a ≠ 128 → I2 a = I1 a) → (∀ i, i ≠ a_n c q → I2 128 i = I1 128 i) → I2 128 (a_n c q) = (if a_sv s o sd q < l4 then a_sv s o sd q else -1) →
            w_T xs xl 257 103 [some (.ref 104), some (w_i S), u2, some (w_i q), some (w_i l4)] [] [] I2 J b Q := by
          intro j
          induction j with
          | zero =>
            intro l4 I2 b0 b1 b2 b3 b4
            have e50 : I2 104 50 = a_lv s sd (s 0) := by rw [b2 104 (by decide)]; exact a3
            have e36 : I2 104 36 = a_n c q := by rw [b2 104 (by decide)]; exact a2
            rw [if_pos (by omega)] at b4
            refine b257_103 ?_
            try simp only [w_Ug, reduceIte, Nat.reduceEqDiff, Int.reduceEq, eq_self, e50]
            repeat' (first | apply And.intro | intro)
            all_goals (try first | omega | contradiction | exact Or.inl trivial | exact Or.inr trivial)
            rw [e36]
            rw [show (q : Int) + 1 = ((q + 1 : Nat) : Int) by omega]
            have fr2 : w_fr p257 I1 I2 := fun a k' e => by rw [b2 a (fun x => by subst x; cases e)]
            refine ih (q + 1) u2 _ _ (by omega) (w_frU (w_frt a1 fr2) rfl) ?_ ?_ ?_ ?_ ?_ ?_
            · rw [w_Ug, if_pos rfl, if_pos rfl, ns]
            · rw [w_Ug, if_pos rfl, if_neg (by decide)]; exact e50
            · rw [w_Ua (by decide), b2 137 (by decide)]; exact a4
            · rw [w_Ua (by decide), b2 137 (by decide)]; exact a5
            · intro q' hq' cq'
              rw [w_Ua (by decide)]
              by_cases e : q' = q
              · rw [e]; exact b4
              · have mm := a_n_m (c := c) (q' + 1) (q - (q' + 1))
                rw [show q' + 1 + (q - (q' + 1)) = q by omega, a_n_s, if_pos cq'] at mm
                rw [b3 _ (by omega)]
                exact a6 q' (by omega) cq'
            · intro i x y
              rw [w_Ua (by decide)]
              by_cases e : i = a_n c q
              · rw [e, b4]; omega
              · rw [b3 i e]; exact a7 i x (by omega)
          | succ j ihj =>
            intro l4 I2 b0 b1 b2 b3 b4
            have e50 : I2 104 50 = a_lv s sd (s 0) := by rw [b2 104 (by decide)]; exact a3
            have e36 : I2 104 36 = a_n c q := by rw [b2 104 (by decide)]; exact a2
            have e6 : I2 136 q = a_ix s o q := by rw [b2 136 (by decide)]; exact e136
            have e4 : I2 134 (a_ix s o q) = o q := by
              rw [b2 134 (by decide), a1 134 _ rfl, ← o6 q (by omega) (by omega)]
              rw [← ho]
              rfl
            have e7 : I2 137 l4 = I1 137 l4 := by rw [b2 137 (by decide)]
            obtain ⟨y1, y2, y3⟩ := a5 l4 b1 (by omega)
            have z1 := z.1
            by_cases c2 : I1 137 l4 = o q
            · have svq : a_sv s o sd q = l4 := by
                rw [c2] at y2 y3
                unfold a_sv
                rw [if_pos y2, y3]
              refine b257_103 ?_
              try simp only [w_Ug, reduceIte, Nat.reduceEqDiff, Int.reduceEq, eq_self, e50, e6, e4, e7, e36]
              repeat' (first | apply And.intro | intro)
              all_goals (try first | omega | contradiction | exact Or.inl trivial | exact Or.inr trivial)
              refine ihj (l4 + 1) _ (by omega) (by omega) (fun a ha => by rw [w_Ua ha]; exact b2 a ha) (fun i hi => by rw [w_Ug, if_pos rfl, if_neg hi]; exact b3 i hi) ?_
              rw [w_Ug, if_pos rfl, if_pos rfl, if_pos (by omega), svq]
            · have nsv : a_sv s o sd q ≠ l4 := by
                intro x
                unfold a_sv at x
                by_cases c3 : s (20 + o q) = sd
                · rw [if_pos c3] at x
                  have := a4 (o q) (Or.inl z) c3
                  rw [x] at this
                  exact c2 this
                · rw [if_neg c3] at x
                  omega
              refine b257_103 ?_
              try simp only [w_Ug, reduceIte, Nat.reduceEqDiff, Int.reduceEq, eq_self, e50, e6, e4, e7, e36]
              repeat' (first | apply And.intro | intro)
              all_goals (try first | omega | contradiction | exact Or.inl trivial | exact Or.inr trivial)
              refine ihj (l4 + 1) _ (by omega) (by omega) b2 b3 ?_
              rw [b4]
              by_cases c3 : a_sv s o sd q < l4
              · rw [if_pos c3, if_pos (by omega)]
              · rw [if_neg c3, if_neg (by omega)]
        rw [a2]
        refine inner (a_lv s sd (s 0)).toNat 0 _ (by omega) (by omega) (fun a ha => w_Ua ha) (fun i hi => by rw [w_Ug, if_pos rfl, if_neg hi]) ?_
        rw [w_Ug, if_pos rfl, if_pos rfl]
        by_cases c3 : a_sv s o sd q < 0
        · rw [if_pos c3]; omega
        · rw [if_neg c3]
      · have cq : ¬ c q = true := fun x => c1 (cq.mp x)
        rw [if_neg cq, Int.add_zero] at ns
        have b0 : bt S (a_ix s o q) = 0 := by omega
        rw [b0] at sq
        refine b257_66 ?_
        try simp only [w_Ug, reduceIte, Nat.reduceEqDiff, Int.reduceEq, eq_self, e46, e136, sq]
        repeat' (first | apply And.intro | intro)
        all_goals (try first | omega | contradiction | exact Or.inl trivial | exact Or.inr trivial)
        rw [show (q : Int) + 1 = ((q + 1 : Nat) : Int) by omega]
        refine ih (q + 1) u2 _ I1 (by omega) a1 (by omega) a3 a4 a5 (fun q' hq' cq' => ?_) (fun i x y => a7 i x (by omega))
        by_cases e : q' = q
        · rw [e] at cq'; exact absurd cq' cq
        · exact a6 q' (by omega) cq'
  -- the side's houses
  have side : ∀ (m : Nat) (h : Int) (u4 : Option Value) (I1 : w_I), h + m = s 0 → 0 ≤ h → w_fr p257 I I1 → I1 104 50 = a_lv s sd h → (∀ x, 0 ≤ x → x < h → s (20 + x) = sd → I1 137 (a_lv s sd x) = x) →
      w_T xs xl 257 7 [some (.ref 104), some (w_i S), some (w_i sd), some (w_i h), u4] [] [] I1 J b Q := by
    intro m
    induction m with
    | zero =>
      intro h u4 I1 a0 a1 a2 a3 a4
      have e : h = s 0 := by omega
      subst e
      have hs1 : I1 110 = s := (w_frA a2 (fun _ => rfl)).trans hs
      refine b257_7 ?_
      try simp only [w_Ug, reduceIte, Nat.reduceEqDiff, Int.reduceEq, eq_self, hs1]
      repeat' (first | apply And.intro | intro)
      all_goals (try first | omega | contradiction | exact Or.inl trivial | exact Or.inr trivial)
      refine rows N 0 _ _ _ (by omega) (w_frU a2 rfl) (by rw [w_Ug, if_pos rfl, if_pos rfl]; rfl) (by rw [w_Ug, if_pos rfl, if_neg (by decide)]; exact a3) (fun x hx hd => ?_) (fun j j0 j1 => ?_) (fun q' hq' => by omega) (fun i x y => by have : a_n c 0 = 0 := rfl; omega)
      · rw [w_Ua (by decide)]
        rcases hx with hx | hx
        · exact a4 x hx.1.1 hx.1.2 hd
        · exact a4 x hx.1 hx.2 hd
      · rw [w_Ua (by decide)]
        obtain ⟨x, x0, x1, x2, x3⟩ := a_lv_ex (s := s) (sd := sd) (j := j) j0 (s 0).toNat (by rw [show (((s 0).toNat : Nat) : Int) = s 0 by omega]; exact j1)
        have := a4 x x0 (by omega) x2
        rw [x3] at this
        rw [this]
        exact ⟨⟨x0, by omega⟩, x2, x3⟩
    | succ m ih =>
      intro h u4 I1 a0 a1 a2 a3 a4
      have hs1 : I1 110 = s := (w_frA a2 (fun _ => rfl)).trans hs
      have w1 := w.2.1 h a1 (by omega)
      have lvs := a_lv_s (s := s) (sd := sd) (h := h) a1
      have lb := a_lv_b (s := s) (sd := sd) (h := h) a1
      by_cases c1 : s (20 + h) = sd
      · rw [if_pos c1] at lvs
        have c1' : I1 110 (20 + h) = sd := by rw [hs1]; exact c1
        refine b257_7 ?_
        try simp only [w_Ug, reduceIte, Nat.reduceEqDiff, Int.reduceEq, eq_self, hs1, a3, c1]
        repeat' (first | apply And.intro | intro)
        all_goals (try first | omega | contradiction | exact Or.inl trivial | exact Or.inr trivial)
        refine ih (h + 1) _ _ (by omega) (by omega) (w_frU (w_frU a2 rfl) rfl) ?_ (fun x x0 x1 x2 => ?_)
        · rw [w_Ug, if_pos rfl, if_pos rfl, lvs]
        · rw [w_Ua (by decide), w_Ug, if_pos rfl]
          by_cases e : x = h
          · rw [e, if_pos rfl]
          · have := a_lv_lt (s := s) (sd := sd) x0 (show x < h by omega) x2
            rw [if_neg (by omega)]
            exact a4 x x0 (by omega) x2
      · rw [if_neg c1, Int.add_zero] at lvs
        refine b257_7 ?_
        try simp only [w_Ug, reduceIte, Nat.reduceEqDiff, Int.reduceEq, eq_self, hs1, a3]
        repeat' (first | apply And.intro | intro)
        all_goals (try first | omega | contradiction | exact Or.inl trivial | exact Or.inr trivial)
        refine ih (h + 1) _ _ (by omega) (by omega) a2 (by omega) (fun x x0 x1 x2 => ?_)
        by_cases e : x = h
        · rw [e] at x2; exact absurd x2 c1
        · exact a4 x x0 (by omega) x2
  refine e257 (b257_0 ?_)
  refine side (s 0).toNat 0 _ _ (by omega) (by omega) (w_frU w_frr rfl) ?_ (fun x x0 x1 => by omega)
  rw [w_Ug, if_pos rfl, if_pos rfl]
  rfl
end
