section
/-! the class: ages and keys -/
variable {xs : Nat → Int32} {xl : Nat} {I J : w_I} {b : Bool} {Q : Option Value → w_I → w_I → Bool → Prop}
variable {s : Int → Int}
theorem m_sm_0 {f g t : Int} (h : m_sz s f g = 0) : m_sm s f g t = 0 ∧ m_mo s f g t = 0 := by
  have hz := (m_sz_z s f g).mp h
  constructor
  · unfold m_sm
    have : m_sum (fun p => if m_in s f g p then m_pa s p t else 0) (s 7).toNat = m_sum (fun _ => 0) (s 7).toNat := m_sum_c _ (fun i hi => if_neg (hz i (by omega) (by omega)))
    rw [this]
    generalize (s 7).toNat = n
    induction n with
    | zero => rfl
    | succ n ih => rw [m_sum_s, ih]; rfl
  · unfold m_mo
    have : m_mx (fun p => if m_in s f g p then m_pa s p t else 0) (s 7).toNat = m_mx (fun _ => 0) (s 7).toNat := m_mx_c _ (fun i hi => if_neg (hz i (by omega) (by omega)))
    rw [this]
    generalize (s 7).toNat = n
    induction n with
    | zero => rfl
    | succ n ih => rw [m_mx_s, ih]; rfl
theorem m_sm_b (w : m_w0 s) {f g t : Int} : 0 ≤ m_sm s f g t ∧ m_sm s f g t ≤ 12000 := by
  have w0 := w.1
  have h := (m_sum_b (lo := 0) (hi := 199) (P := fun p => if m_in s f g p then m_pa s p t else 0) (s 7).toNat (fun i hi => by
    have := m_pa_b (t := t) w (p := i) (by omega)
    show 0 ≤ (if m_in s f g i then m_pa s i t else 0) ∧ (if m_in s f g i then m_pa s i t else 0) ≤ 199
    split <;> omega))
  unfold m_sm
  omega
/-- what stands in the age cells between the two loops -/
def m_raw (s : Int → Int) (bm t f : Int) (n : Nat) : Int := if bm = 0 then m_mx (fun p => if m_in s f (-1) p then m_pa s p t else 0) n else m_sum (fun p => if m_in s f (-1) p then m_pa s p t else 0) n
theorem m_raw_b (w : m_w0 s) {bm t f : Int} {n : Nat} (hn : n ≤ (s 7).toNat) : 0 ≤ m_raw s bm t f n ∧ m_raw s bm t f n ≤ 12000 := by
  have w0 := w.1
  unfold m_raw
  split
  · have := m_mx_b (hi := 199) (P := fun p => if m_in s f (-1) p then m_pa s p t else 0) (by decide) n (fun i hi => by
      have := m_pa_b (t := t) w (p := i) (by omega)
      show (if m_in s f (-1) i then m_pa s i t else 0) ≤ 199
      split <;> omega)
    omega
  · have := (m_sum_b (lo := 0) (hi := 199) (P := fun p => if m_in s f (-1) p then m_pa s p t else 0) n (fun i hi => by
      have := m_pa_b (t := t) w (p := i) (by omega)
      show 0 ≤ (if m_in s f (-1) i then m_pa s i t else 0) ∧ (if m_in s f (-1) i then m_pa s i t else 0) ≤ 199
      split <;> omega))
    omega
theorem m_raw_s {bm t f : Int} {n : Nat} : m_raw s bm t f (n + 1) = if bm = 0 then max (m_raw s bm t f n) (if m_in s f (-1) n then m_pa s n t else 0) else m_raw s bm t f n + (if m_in s f (-1) n then m_pa s n t else 0) := by
  unfold m_raw
  split
  · rw [m_mx_s]
  · rw [m_sum_s]
theorem c22 {bm t st : Int} (rf : c_rf 20 I s) (wf : m_wf s) (hbm : bm = 0 ∨ bm = 1) (ht : w_in t) (hst : 1 ≤ st ∧ st ≤ 20)
    (k : ∀ I', (∀ a, a ≠ 82 → a ≠ 83 → I' a = I a) → (∀ f, 0 ≤ f → f < s 8 → I' 82 f = m_ag s f (-1) t bm ∧ I' 83 f = m_ag s f (-1) t bm / st) → Q none I' J b) : w_C xs xl 22 [.ref 78, w_i bm, w_i t, w_i st] I J b Q := by
  have w := wf.1
  have w0 := w.1
  have rf' := rf
  simp only [c_rf, Nat.reduceAdd] at rf'
  obtain ⟨r13, r14, -, -, rp, rff, -⟩ := rf'
  refine e22 (b22_0 ?_)
  refine f295_82 (fun I1 h1 h2 => b22_8 ?_)
  have loop2 : ∀ (m : Nat) (l4 : Int) (u2 u5 u6 : Option Value) (I2 : w_I), l4 + m = s 8 → 0 ≤ l4 → (∀ a, a ≠ 82 → a ≠ 83 → I2 a = I a) →
      (∀ f, 0 ≤ f → f < l4 → I2 82 f = m_ag s f (-1) t bm ∧ I2 83 f = m_ag s f (-1) t bm / st) → (∀ f, l4 ≤ f → f < s 8 → I2 82 f = m_raw s bm t f (s 7).toNat) →
      w_T xs xl 22 98 [some (.ref 78), some (w_i bm), u2, some (w_i st), some (w_i l4), u5, u6] [] [] I2 J b Q := by
    intro m
    induction m with
    | zero =>
      intro l4 u2 u5 u6 I2 a0 a1 a2 a3 a4
      have e20 := a2 20 (by decide) (by decide)
      have e14' : I2 20 14 = s 8 := by rw [e20]; exact r14
      refine b22_98 ?_
      try simp only [w_Ug, reduceIte, Nat.reduceEqDiff, Int.reduceEq, eq_self, e14']
      repeat' (first | apply And.intro | intro)
      all_goals (try first | omega | contradiction)
      exact k I2 a2 (fun f x y => a3 f x (by omega))
    | succ m ih =>
      intro l4 u2 u5 u6 I2 a0 a1 a2 a3 a4
      have e20 := a2 20 (by decide) (by decide)
      have e14' : I2 20 14 = s 8 := by rw [e20]; exact r14
      have e26 : I2 26 l4 = m_sz s l4 (-1) := by rw [a2 26 (by decide) (by decide)]; exact (rff l4 a1 (by omega)).1
      have e82 := a4 l4 (Int.le_refl _) (by omega)
      have hb := m_raw_b w (bm := bm) (t := t) (f := l4) (Nat.le_refl _)
      have hag := m_ag_b (f := l4) (g := -1) (t := t) (by' := bm) w
      have hsz := m_sz_nn s l4 (-1)
      have hsz2 : m_sz s l4 (-1) ≤ 60 := by
        have := (m_sum_b (lo := 0) (hi := 1) (P := fun p => if m_in s l4 (-1) p then 1 else 0) (s 7).toNat (fun i hi => by
          show 0 ≤ (if m_in s l4 (-1) i then (1 : Int) else 0) ∧ (if m_in s l4 (-1) i then (1 : Int) else 0) ≤ 1
          split <;> omega)).2
        unfold m_sz
        omega
      -- what is put
      have g0 : bm = 0 → m_raw s bm t l4 (s 7).toNat = m_ag s l4 (-1) t bm := by
        intro e
        unfold m_raw m_ag m_mo
        rw [if_pos e, if_pos (Or.inl e)]
      have g1 : ¬ bm = 0 → m_sz s l4 (-1) ≤ 0 → m_raw s bm t l4 (s 7).toNat = m_ag s l4 (-1) t bm := by
        intro e hz
        have hz : m_sz s l4 (-1) = 0 := by omega
        have := m_sm_0 (t := t) hz
        unfold m_raw m_ag
        rw [if_neg e, if_pos (Or.inr hz), this.2]
        exact this.1
      have g2 : ¬ bm = 0 → ¬ m_sz s l4 (-1) ≤ 0 → m_raw s bm t l4 (s 7).toNat / m_sz s l4 (-1) = m_ag s l4 (-1) t bm := by
        intro e hz
        unfold m_raw m_ag m_sm
        rw [if_neg e, if_neg (by omega)]
      have fin : ∀ (I3 : w_I) (u5 u6 : Option Value), (∀ a, a ≠ 82 → a ≠ 83 → I3 a = I2 a) → (∀ f, f ≠ l4 → I3 82 f = I2 82 f ∧ I3 83 f = I2 83 f) → I3 82 l4 = m_ag s l4 (-1) t bm → I3 83 l4 = m_ag s l4 (-1) t bm / st →
          w_T xs xl 22 98 [some (.ref 78), some (w_i bm), u2, some (w_i st), some (w_i (l4 + 1)), u5, u6] [] [] I3 J b Q := by
        intro I3 u5 u6 c1 c2 c3 c4
        refine ih (l4 + 1) u2 u5 u6 I3 (by omega) (by omega) (fun a x y => by rw [c1 a x y]; exact a2 a x y) (fun f x y => ?_) (fun f x y => ?_)
        · by_cases e : f = l4
          · subst e; exact ⟨c3, c4⟩
          · rw [(c2 f e).1, (c2 f e).2]; exact a3 f x (by omega)
        · rw [(c2 f (by omega)).1]; exact a4 f (by omega) y
      have dv : ¬ bm = 0 → ¬ m_sz s l4 (-1) ≤ 0 → 0 ≤ m_raw s bm t l4 (s 7).toNat / m_sz s l4 (-1) ∧ m_raw s bm t l4 (s 7).toNat / m_sz s l4 (-1) ≤ 199 := by
        intro e hz
        rw [g2 e hz]
        exact hag
      refine b22_98 ?_
      try simp only [w_Ug, reduceIte, Nat.reduceEqDiff, Int.reduceEq, eq_self, e14', e26, e82]
      repeat' (first | apply And.intro | intro)
      all_goals (try first | omega | contradiction)
      all_goals try (have := dv (by omega) (by omega); omega)
      all_goals
        refine fin _ _ _ ?_ ?_ ?_ ?_
      all_goals try (intro a x y; first | rw [w_Ua y, w_Ua x] | rw [w_Ua y])
      all_goals try (intro f x; simp only [w_Ug, reduceIte, Nat.reduceEqDiff, if_neg x]; exact ⟨trivial, trivial⟩)
      all_goals simp only [w_Ug, reduceIte, Nat.reduceEqDiff, e82]
      all_goals first | exact g0 (by omega) | exact g1 (by omega) (by omega) | exact g2 (by omega) (by omega) | rw [g0 (by omega)] | rw [g1 (by omega) (by omega)] | rw [g2 (by omega) (by omega)]
  have loop1 : ∀ (m : Nat) (n : Nat) (l4 : Int) (u5 u6 : Option Value) (I2 : w_I), (n : Int) + m = s 7 → l4 = n → (∀ a, a ≠ 82 → I2 a = I a) → (∀ f, 0 ≤ f → f < s 8 → I2 82 f = m_raw s bm t f n) →
      w_T xs xl 22 11 [some (.ref 78), some (w_i bm), some (w_i t), some (w_i st), some (w_i l4), u5, u6] [] [] I2 J b Q := by
    intro m
    induction m with
    | zero =>
      intro n l4 u5 u6 I2 a0 a1 a2 a3
      have e13' : I2 20 13 = s 7 := by rw [a2 20 (by decide)]; exact r13
      refine b22_11 ?_
      try simp only [w_Ug, reduceIte, Nat.reduceEqDiff, Int.reduceEq, eq_self, e13']
      repeat' (first | apply And.intro | intro)
      all_goals (try first | omega | contradiction)
      refine loop2 (s 8).toNat 0 _ _ _ I2 (by omega) (by omega) (fun a x _ => a2 a x) (fun f x y => by omega) (fun f x y => ?_)
      rw [show (s 7).toNat = n by omega]
      exact a3 f x y
    | succ m ih =>
      intro n l4 u5 u6 I2 a0 a1 a2 a3
      have e13' : I2 20 13 = s 7 := by rw [a2 20 (by decide)]; exact r13
      have wp := w.2.2.1 l4 (by omega) (by omega)
      have rp := rp l4 (by omega) (by omega)
      have e25 : I2 25 l4 = I 25 l4 := by rw [a2 25 (by decide)]
      have hpa := m_pa_b (t := t) w (p := l4) (by omega)
      by_cases hal : s (100 + 6 * l4) = 1
      · have f25 := rp.2.2.2.2.1 hal
        rw [f25] at e25
        refine b22_11 ?_
        try simp only [w_Ug, reduceIte, Nat.reduceEqDiff, Int.reduceEq, eq_self, e13', e25]
        repeat' (first | apply And.intro | intro)
        all_goals (try first | omega | contradiction)
        have rf2 : c_rf 20 I2 s := by
          simp only [c_rf, Nat.reduceAdd] at rf ⊢
          rw [a2 20 (by decide), a2 21 (by decide), a2 22 (by decide), a2 23 (by decide), a2 24 (by decide), a2 25 (by decide), a2 26 (by decide), a2 27 (by decide), a2 28 (by decide), a2 29 (by decide), a2 30 (by decide), a2 31 (by decide), a2 32 (by decide), a2 33 (by decide)]
          exact rf
        refine c11 rf2 w (by omega) ht ?_
        have hb := m_raw_b w (bm := bm) (t := t) (f := s (100 + 6 * l4 + 5)) (n := n) (by omega)
        have e82 := a3 (s (100 + 6 * l4 + 5)) (by omega) (by omega)
        have fin : ∀ (v : Int) (u5 u6 : Option Value), v = m_raw s bm t (s (100 + 6 * l4 + 5)) (n + 1) → w_T xs xl 22 11 [some (.ref 78), some (w_i bm), some (w_i t), some (w_i st), some (w_i (l4 + 1)), u5, u6] [] [] (w_U I2 82 (s (100 + 6 * l4 + 5)) v) J b Q := by
          intro v u5 u6 hv
          refine ih (n + 1) (l4 + 1) u5 u6 _ (by omega) (by omega) (fun a x => by rw [w_Ua x]; exact a2 a x) (fun f x y => ?_)
          rw [w_Ug, if_pos rfl]
          by_cases e : f = s (100 + 6 * l4 + 5)
          · subst e; rw [if_pos rfl]; exact hv
          · rw [if_neg e, a3 f x y, m_raw_s]
            have : ¬ m_in s f (-1) n := by
              rw [← a1]
              simp only [m_in]
              omega
            rw [if_neg this]
            have hb := m_raw_b w (bm := bm) (t := t) (f := f) (n := n) (by omega)
            split <;> omega
        have hin : m_in s (s (100 + 6 * l4 + 5)) (-1) n := by
          rw [← a1]
          exact ⟨hal, Or.inl rfl⟩
        have hr := m_raw_s (s := s) (bm := bm) (t := t) (f := s (100 + 6 * l4 + 5)) (n := n)
        rw [if_pos hin, ← a1] at hr
        refine b22_51 ?_
        try simp only [w_Ug, reduceIte, Nat.reduceEqDiff, Int.reduceEq, eq_self, e82]
        repeat' (first | apply And.intro | intro)
        all_goals (try first | omega | contradiction)
        · rename_i e
          rw [if_pos e] at hr
          exact fin _ _ _ hr.symm
        · rename_i e
          rw [if_neg e] at hr
          exact fin _ _ _ hr.symm
      · have f25 := rp.2.2.2.2.2 hal
        rw [f25] at e25
        refine b22_11 ?_
        try simp only [w_Ug, reduceIte, Nat.reduceEqDiff, Int.reduceEq, eq_self, e13', e25]
        repeat' (first | apply And.intro | intro)
        all_goals (try first | omega | contradiction)
        refine ih (n + 1) (l4 + 1) _ _ I2 (by omega) (by omega) a2 (fun f x y => ?_)
        rw [a3 f x y, m_raw_s]
        have : ¬ m_in s f (-1) n := by
          rw [← a1]
          exact fun h => hal h.1
        rw [if_neg this]
        have hb := m_raw_b w (bm := bm) (t := t) (f := f) (n := n) (by omega)
        split <;> omega
  refine loop1 (s 7).toNat 0 0 _ _ I1 (by omega) rfl h1 (fun f x y => ?_)
  rw [h2 f x (by omega)]
  unfold m_raw
  split <;> rfl
theorem c21 (rf : c_rf 20 I s) (rt : c_rt I s) (wf : m_wf s)
    (k : ∀ I', (∀ a, a ≠ 82 → a ≠ 83 → I' a = I a) → (∀ f, 0 ≤ f → f < s 8 → I' 82 f = m_ag s f (-1) 0 (s 3) ∧ I' 83 f = m_ag s f (-1) 0 (s 3) / s 1) → Q none I' J b) : w_C xs xl 21 [.ref 78] I J b Q := by
  have w0 := wf.1.1
  refine e21 (b21_0 ?_)
  rw [rt.2.2.2.2.1, rt.2.1]
  exact c22 rf wf (by omega) (by decide) (by omega) (fun I' f r => b21_19 (k I' f r))
end
