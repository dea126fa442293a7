section
/-! the class: newcomers -/
variable {xs : Nat → Int32} {xl : Nat} {I J : w_I} {b : Bool} {Q : Option Value → w_I → w_I → Bool → Prop}
variable {s : Int → Int}
/-- what calls of the class may use as they like -/
def pK (a : Nat) (k : Int) : Bool := (a == 78 && (k == 6 || k == 7)) || (a == 79 && k == 3) || (Nat.ble 80 a && Nat.ble a 84) || (a == 85 && (k == 4 || k == 5)) || (Nat.ble 86 a && Nat.ble a 88) || (a == 89 && (k == 4 || k == 5)) || (Nat.ble 90 a && Nat.ble a 92) || (a == 93 && (k == 5 || k == 8 || k == 9)) || (Nat.ble 94 a && Nat.ble a 99) || (a == 100 && k == 3) || a == 101 || (a == 102 && (k == 1 || k == 2 || k == 3)) || (a == 103 && (k == 2 || k == 3)) || (Nat.ble 34 a && Nat.ble a 47)
/-- what calls of the reference may use as they like -/
def pJ (a : Nat) (k : Int) : Bool := (a == 104 && (k == 31 || (decide (33 ≤ k) && decide (k ≤ 60)))) || (Nat.ble 123 a && Nat.ble a 138)
theorem ble_f {a b : Nat} : Nat.ble a b = false ↔ b < a := by
  constructor
  · intro h
    apply Nat.lt_of_not_le
    intro h2
    rw [Nat.ble_eq_true_of_le h2] at h
    cases h
  · intro h
    cases e : Nat.ble a b
    · rfl
    · have := Nat.le_of_ble_eq_true e
      omega
theorem pE_K {I I' : w_I} (h : w_fr pE I I') : w_fr pK I I' := w_frm h (fun a k e => by
  simp only [pK, pE, p34, pV, p96, pZ, pA, p24, Bool.or_eq_false_iff, Bool.and_eq_false_iff, beq_eq_false_iff_ne, ne_eq, ble_f] at e ⊢
  omega)
theorem pX_K {I I' : w_I} (h : w_fr pX I I') : w_fr pK I I' := w_frm h (fun a k e => by
  simp only [pK, pX, pW, pV, p96, pA, Bool.or_eq_false_iff, Bool.and_eq_false_iff, beq_eq_false_iff_ne, ne_eq, ble_f] at e ⊢
  omega)
theorem pY_K {I I' : w_I} (h : w_fr pY I I') : w_fr pK I I' := w_frm h (fun a k e => by
  simp only [pK, pY, pV, p96, pA, Bool.or_eq_false_iff, Bool.and_eq_false_iff, beq_eq_false_iff_ne, ne_eq, ble_f] at e ⊢
  omega)
theorem pZ_K {I I' : w_I} (h : w_fr pZ I I') : w_fr pK I I' := pE_K (pZ_E h)
theorem pA_K {I I' : w_I} (h : w_fr pA I I') : w_fr pK I I' := pZ_K (pA_Z h)
theorem pV_K {I I' : w_I} (h : w_fr pV I I') : w_fr pK I I' := pE_K (p34_E (pV_34 h))
theorem p60_K {I I' : w_I} (h : w_fr p60 I I') : w_fr pK I I' := w_frm h (fun a k e => by
  simp only [pK, p60, Bool.or_eq_false_iff, Bool.and_eq_false_iff, beq_eq_false_iff_ne, ne_eq, ble_f] at e ⊢
  omega)
theorem p62_K {I I' : w_I} (h : w_fr p62 I I') : w_fr pK I I' := w_frm h (fun a k e => by
  simp only [pK, p62, Bool.or_eq_false_iff, Bool.and_eq_false_iff, beq_eq_false_iff_ne, ne_eq, ble_f] at e ⊢
  omega)
theorem pK_of {a : Nat} (h : (20 ≤ a ∧ a ≤ 33) ∨ a < 20 ∨ 104 ≤ a) (k : Int) : pK a k = false := by
  simp only [pK, Bool.or_eq_false_iff, Bool.and_eq_false_iff, beq_eq_false_iff_ne, ne_eq, ble_f]
  omega
theorem pK_rf {I I' : w_I} (h : w_fr pK I I') (rf : c_rf 20 I s) : c_rf 20 I' s := c_rf_fr (fun x h1 h2 => w_frA h (pK_of (Or.inl ⟨h1, by omega⟩))) rf
theorem pK_rt {I I' : w_I} (h : w_fr pK I I') (rt : c_rt I s) : c_rt I' s := by
  unfold c_rt
  rw [w_frA h (fun _ => rfl), w_frA (a := 3) h (fun _ => rfl), w_frA (a := 4) h (fun _ => rfl)]
  exact rt
theorem pK_cd {F : m_F} {I I' : w_I} (h : w_fr pK I I') (cd : c_cd (I 5) (I 6) (I 7) F s) : c_cd (I' 5) (I' 6) (I' 7) F s := c_cd_fr cd h (fun _ => rfl) (fun _ => rfl) (fun _ => rfl)
theorem m_cnt {P : Int → Prop} {d : ∀ i, Decidable (P i)} {p : Nat} : ∀ n : Nat, p ≤ n → (∀ i : Nat, i < p → P i) → (∀ i : Nat, p ≤ i → i < n → ¬ P i) → m_sum (fun i => @ite Int (P i) (d i) 1 0) n = p
  | 0, h, _, _ => by
    have : p = 0 := by omega
    subst this
    rfl
  | n + 1, h, h1, h2 => by
    rw [m_sum_s]
    by_cases c : p ≤ n
    · rw [m_cnt n c h1 (fun i a b => h2 i a (by omega)), if_neg (h2 n c (by omega))]
      omega
    · rw [m_cnt (p := n) n (Nat.le_refl _) (fun i hi => h1 i (by omega)) (fun i a b => by omega), if_pos (h1 n (by omega))]
      omega
/-- where somebody of an age comes to stand -/
def m_po (s : Int → Int) (n : Int) (r : Int → Int) (a : Int) : Int := m_sum (fun i => if m_kf s (s 1) (r i) ≤ a / s 1 then 1 else 0) n.toNat
theorem m_po_e {n p a : Int} {r : Int → Int} (hp : 0 ≤ p ∧ p ≤ n) (h1 : ∀ i, 0 ≤ i → i < p → m_kf s (s 1) (r i) ≤ a / s 1) (h2 : ∀ i, p ≤ i → i < n → a / s 1 < m_kf s (s 1) (r i)) : m_po s n r a = p := by
  unfold m_po
  have := m_cnt (P := fun i => m_kf s (s 1) (r i) ≤ a / s 1) (d := fun i => inferInstance) (p := p.toNat) n.toNat (by omega) (fun i hi => h1 i (by omega) (by omega)) (fun i a b => by
    have := h2 i (by omega) (by omega)
    omega)
  rw [this]
  omega
theorem m_po_b {n a : Int} {r : Int → Int} (h : 0 ≤ n) : 0 ≤ m_po s n r a ∧ m_po s n r a ≤ n := by
  have := m_sum_b (lo := 0) (hi := 1) (P := fun i => if m_kf s (s 1) (r i) ≤ a / s 1 then 1 else 0) n.toNat (fun i hi => by
    show 0 ≤ (if m_kf s (s 1) (r i) ≤ a / s 1 then (1 : Int) else 0) ∧ (if m_kf s (s 1) (r i) ≤ a / s 1 then (1 : Int) else 0) ≤ 1
    split <;> omega)
  unfold m_po
  omega
def m_mg (s : Int → Int) (n : Int) (r : Int → Int) (H fr by' p : Int) : Int := if H < n + 1 then 24 else n - l_w (l_x (fun i => l_sp fr by' (m_hm s (r i))) p 1) (H - n - 1) n.toNat 0 0
theorem m_mg_b {n H fr by' p : Int} {r : Int → Int} (h : 0 ≤ n ∧ n ≤ 24) : 0 ≤ m_mg s n r H fr by' p ∧ m_mg s n r H fr by' p ≤ 24 := by
  have := l_w_b (x := l_x (fun i => l_sp fr by' (m_hm s (r i))) p 1) (sl := H - n - 1) n.toNat 0 0
  unfold m_mg
  split <;> omega
def m_mean (F : m_F) (s : Int → Int) (n : Int) (r : Int → Int) (H fr by' : Int) : Int := m_sum (fun a => m_comb F s a * m_mg s n r H fr by' (m_po s n r a)) 100
theorem m_comb_b {F : m_F} {a : Int} : 0 ≤ m_comb F s a ∧ m_comb F s a ≤ 9 := by
  unfold m_comb
  exact m_clamp_b _ (by decide)
theorem m_mean_b {F : m_F} {n H fr by' : Int} {r : Int → Int} (h : 0 ≤ n ∧ n ≤ 24) : 0 ≤ m_mean F s n r H fr by' ∧ m_mean F s n r H fr by' ≤ 21600 := by
  have := m_sum_b (lo := 0) (hi := 216) (P := fun a => m_comb F s a * m_mg s n r H fr by' (m_po s n r a)) 100 (fun i hi => by
    have c := m_comb_b (s := s) (F := F) (a := i)
    have g := m_mg_b (s := s) (H := H) (fr := fr) (by' := by') (p := m_po s n r i) (r := r) h
    show 0 ≤ m_comb F s i * m_mg s n r H fr by' (m_po s n r i) ∧ m_comb F s i * m_mg s n r H fr by' (m_po s n r i) ≤ 216
    refine ⟨Int.mul_nonneg c.1 g.1, ?_⟩
    have h1 : m_comb F s i * m_mg s n r H fr by' (m_po s n r i) ≤ 9 * m_mg s n r H fr by' (m_po s n r i) := Int.mul_le_mul_of_nonneg_right c.2 g.1
    omega)
  unfold m_mean
  omega
/-- the weight of a place -/
def m_wt (F : m_F) (s : Int → Int) (n : Int) (r : Int → Int) (p : Int) (m : Nat) : Int := m_sum (fun a => if m_po s n r a = p then m_comb F s a else 0) m
theorem m_sum_mul {P : Int → Int} {c : Int} : ∀ n : Nat, m_sum P n * c = m_sum (fun i => P i * c) n
  | 0 => by simp [m_sum]
  | n + 1 => by rw [m_sum_s, m_sum_s, Int.add_mul, m_sum_mul n]
theorem m_mean_w {F : m_F} {n H fr by' : Int} {r : Int → Int} (h : 0 ≤ n) : m_sum (fun p => m_wt F s n r p 100 * m_mg s n r H fr by' p) (n + 1).toNat = m_mean F s n r H fr by' := by
  unfold m_mean m_wt
  have : m_sum (fun p => m_sum (fun a => if m_po s n r a = p then m_comb F s a else 0) 100 * m_mg s n r H fr by' p) (n + 1).toNat = m_sum (fun p => m_sum (fun a => (if m_po s n r a = p then m_comb F s a else 0) * m_mg s n r H fr by' p) 100) (n + 1).toNat := m_sum_c _ (fun p hp => m_sum_mul 100)
  rw [this, m_sum_sw]
  refine m_sum_c _ (fun a ha => ?_)
  have pb := m_po_b (s := s) (r := r) (a := a) h
  try dsimp only
  rw [m_sum_one (j := (m_po s n r a).toNat) _ (by omega) (fun p hp hne => by
    try dsimp only
    rw [if_neg (by omega), Int.zero_mul])]
  rw [show (((m_po s n r a).toNat : Nat) : Int) = m_po s n r a by omega, if_pos rfl]
theorem m_wt_b {F : m_F} {n p : Int} {r : Int → Int} {m : Nat} : 0 ≤ m_wt F s n r p m ∧ m_wt F s n r p m ≤ 9 * m := by
  have := m_sum_b (lo := 0) (hi := 9) (P := fun a => if m_po s n r a = p then m_comb F s a else 0) m (fun i hi => by
    have c := m_comb_b (s := s) (F := F) (a := i)
    show 0 ≤ (if m_po s n r i = p then m_comb F s i else 0) ∧ (if m_po s n r i = p then m_comb F s i else 0) ≤ 9
    split <;> omega)
  unfold m_wt
  omega
theorem c61a {wt : Int → Int} {n H fr by' : Int} {r : Int → Int} (hwt : ∀ p, 0 ≤ wt p ∧ wt p ≤ 900) (hn : I 78 6 = n) (hb : 0 ≤ n ∧ n ≤ 24) (hH : -1 ≤ H ∧ H ≤ 25) (h90 : ∀ p, 0 ≤ p → p ≤ n → I 90 p = wt p) (h91 : ∀ i, 0 ≤ i → i < n → I 91 i = l_sp fr by' (m_hm s (r i)) ∧ -1000 ≤ I 91 i ∧ I 91 i ≤ 1000)
    (k : ∀ I', w_fr p62 I I' → Q (some (w_i (m_sum (fun p => wt p * m_mg s n r H fr by' p) (n + 1).toNat))) I' J b) : w_C xs xl 61 [.ref 89, w_i H] I J b Q := by
  refine e61 (b61_0 ?_)
  rw [hn]
  have loop : ∀ (m j : Nat) (l3 l4 : Int) (u1 : Option Value) (I1 : w_I), (j : Int) + m = n + 1 → l4 = j → w_fr p62 I I1 → l3 = m_sum (fun p => wt p * m_mg s n r H fr by' p) j → w_T xs xl 61 17 [some (.ref 89), u1, some (w_i (H - n - 1)), some (w_i l3), some (w_i l4)] [] [] I1 J b Q := by
    intro m
    induction m with
    | zero =>
      intro j l3 l4 u1 I1 a0 a1 a2 a3
      have n1 : I1 78 6 = n := by rw [a2 78 6 rfl]; exact hn
      have kk := k I1 a2
      rw [show (n + 1).toNat = j by omega, ← a3] at kk
      refine b61_17 ?_
      try simp only [w_Ug, reduceIte, Nat.reduceEqDiff, Int.reduceEq, eq_self, n1]
      repeat' (first | apply And.intro | intro)
      all_goals (try first | omega | contradiction | exact Or.inl trivial | exact Or.inr trivial)
    | succ m ih =>
      intro j l3 l4 u1 I1 a0 a1 a2 a3
      have n1 : I1 78 6 = n := by rw [a2 78 6 rfl]; exact hn
      have e90 : I1 90 l4 = wt l4 := by rw [w_frA a2 (fun _ => rfl)]; exact h90 l4 (by omega) (by omega)
      have wb := hwt l4
      have st := m_sum_s (fun p => wt p * m_mg s n r H fr by' p) j
      try dsimp only at st
      rw [← a3, ← a1] at st
      have hmg : m_mg s n r H fr by' l4 = if H < n + 1 then 24 else n - l_w (l_x (fun i => l_sp fr by' (m_hm s (r i))) l4 1) (H - n - 1) n.toNat 0 0 := rfl
      refine b61_17 ?_
      try simp only [w_Ug, reduceIte, Nat.reduceEqDiff, Int.reduceEq, eq_self, n1, e90]
      repeat' (first | apply And.intro | intro)
      all_goals (try first | omega | contradiction | exact Or.inl trivial | exact Or.inr trivial)
      · rename_i c
        refine ih (j + 1) _ _ _ I1 (by omega) (by omega) a2 ?_
        rw [st, show wt l4 = 0 by omega, Int.zero_mul]
        omega
      · rename_i c1 c2
        rw [if_neg (by omega)] at hmg
        refine c62 (sp := fun i => l_sp fr by' (m_hm s (r i))) (by omega) (Or.inr rfl) (by omega) n1 hb (fun i x y => ?_) (fun I2 fr2 => b61_64 ?_)
        · rw [w_frA a2 (fun _ => rfl)]
          obtain ⟨z1, z2, z3⟩ := h91 i x y
          rw [z1] at z2 z3
          exact ⟨z1, z2, z3⟩
        · rw [← hmg]
          exact ih (j + 1) _ _ _ I2 (by omega) (by omega) (w_frt a2 fr2) st.symm
      · rename_i c1 c2
        rw [if_pos (by omega)] at hmg
        rw [hmg] at st
        exact ih (j + 1) _ _ _ I1 (by omega) (by omega) a2 st.symm
  exact loop (n + 1).toNat 0 0 0 _ I (by omega) rfl w_frr rfl
theorem c61 {F : m_F} {n H fr by' : Int} {r : Int → Int} (hn : I 78 6 = n) (hb : 0 ≤ n ∧ n ≤ 24) (hH : -1 ≤ H ∧ H ≤ 25) (h90 : ∀ p, 0 ≤ p → p ≤ n → I 90 p = m_wt F s n r p 100) (h91 : ∀ i, 0 ≤ i → i < n → I 91 i = l_sp fr by' (m_hm s (r i)) ∧ -1000 ≤ I 91 i ∧ I 91 i ≤ 1000)
    (k : ∀ I', w_fr p62 I I' → Q (some (w_i (m_mean F s n r H fr by'))) I' J b) : w_C xs xl 61 [.ref 89, w_i H] I J b Q := by
  rw [← m_mean_w hb.1] at k
  exact c61a (wt := fun p => m_wt F s n r p 100) (fun p => m_wt_b (m := 100)) hn hb hH h90 h91 k
theorem c56 {F : m_F} (rf : c_rf 20 I s) (rt : c_rt I s) (wf : m_wf s) (cd : c_cd (I 5) (I 6) (I 7) F s)
    (k : ∀ n r I', r_ok n r (m_S s (-1)) (m_rk s (m_kf s (s 1))) → w_fr pK I I' → I' 78 6 = n → (∀ i, 0 ≤ i → i < n → I' 84 i = r i) → (∀ p, 0 ≤ p → p ≤ n → I' 90 p = m_wt F s n r p 100) → Q none I' J b) : w_C xs xl 56 [.ref 89] I J b Q := by
  have w := wf.1
  have w0 := w.1
  refine e56 (b56_0 ?_)
  refine c21 rf rt wf (fun I1 g1 ag1 => b56_7 ?_)
  have fr1 := pA_fr g1
  have rf1 := pA_rf fr1 rf
  have rt1 := pA_rt fr1 rt
  refine c23 (c := -1) (kf := m_kf s (s 1)) rf1 rt1 wf (fun g x y => ⟨(ag1 g x y).2, by
    have := m_kf_b w (st := s 1) (g := g) (by omega)
    omega⟩) (Or.inl rfl) (fun n I2 fr2 n2 nb r2 => b56_15 ?_)
  have n0 := r2.1
  have nb := m_row_b wf r2
  have frZ := pZ_K (w_frt (pA_Z fr1) (p24_Z fr2))
  refine f295_90 (fun I3 g3 z3 => ?_)
  have fr3 : w_fr pK I I3 := w_frt frZ (fun a k e => by
    have : a ≠ 90 := by
      intro x
      subst x
      cases e
    rw [g3 a this])
  have n3 : I3 78 6 = n := by rw [g3 78 (by decide)]; exact n2
  have t6 : I3 2 6 = s 1 := (pK_rt fr3 rt).2.1
  have k := k n (I2 84)
  have hr84 : I3 84 = I2 84 := g3 84 (by decide)
  have a83 : ∀ f, 0 ≤ f → f < s 8 → I3 83 f = m_kf s (s 1) f := fun f x y => by
    rw [g3 83 (by decide), w_frA fr2 (fun _ => rfl)]
    exact (ag1 f x y).2
  generalize I2 84 = r at k r2 hr84
  have kfs : ∀ i j, 0 ≤ i → i ≤ j → j < n → m_kf s (s 1) (r i) ≤ m_kf s (s 1) (r j) := fun i j x y z => by
    by_cases e : i = j
    · subst e; omega
    · have := r2.2.2.2 i j x (by omega) z
      have bi := q_psb (h := m_hm s (r i)) (by
        have := m_S_in (s := s) (c := -1) (Or.inl rfl) _ (r2.2.1 i x (by omega))
        have w3 := w.2.2.2.1 _ this.1 this.2
        unfold m_hm
        split <;> omega)
      have bj := q_psb (h := m_hm s (r j)) (by
        have := m_S_in (s := s) (c := -1) (Or.inl rfl) _ (r2.2.1 j (by omega) z)
        have w3 := w.2.2.2.1 _ this.1 this.2
        unfold m_hm
        split <;> omega)
      have hbi : -1 ≤ m_hm s (r i) ∧ m_hm s (r i) < 100 := by
        have := m_S_in (s := s) (c := -1) (Or.inl rfl) _ (r2.2.1 i x (by omega))
        have w3 := w.2.2.2.1 _ this.1 this.2
        unfold m_hm
        split <;> omega
      have hbj : -1 ≤ m_hm s (r j) ∧ m_hm s (r j) < 100 := by
        have := m_S_in (s := s) (c := -1) (Or.inl rfl) _ (r2.2.1 j (by omega) z)
        have w3 := w.2.2.2.1 _ this.1 this.2
        unfold m_hm
        split <;> omega
      rw [← q_m_rk] at this
      unfold q_rk at this
      omega
  refine b56_23 ?_
  try simp only [w_Ug, reduceIte, Nat.reduceEqDiff, Int.reduceEq, eq_self, t6]
  repeat' (first | apply And.intro | intro)
  all_goals (try first | omega | contradiction | exact Or.inl trivial | exact Or.inr trivial)
  rw [show max 1 (s 1) = s 1 by omega]
  have outer : ∀ (m j : Nat) (l1 l3 : Int) (I4 : w_I), (j : Int) + m = 100 → l3 = j → 0 ≤ l1 → l1 ≤ n → (∀ i, 0 ≤ i → i < l1 → m_kf s (s 1) (r i) ≤ l3 / s 1) → w_fr pK I I4 → I4 78 6 = n → I4 84 = r → (∀ f, 0 ≤ f → f < s 8 → I4 83 f = m_kf s (s 1) f) → (∀ p, 0 ≤ p → p ≤ n → I4 90 p = m_wt F s n r p j) →
      w_T xs xl 56 42 [some (.ref 89), some (w_i l1), some (w_i (s 1)), some (w_i l3)] [] [] I4 J b Q := by
    intro m
    induction m with
    | zero =>
      intro j l1 l3 I4 a0 a1 a2 a3 a4 a5 a6 a7 a8 a9
      have kk := k I4 r2 a5 a6 (fun i _ _ => by rw [a7]) (fun p x y => by rw [a9 p x y, show j = 100 by omega])
      refine b56_42 ?_
      try simp only [w_Ug, reduceIte, Nat.reduceEqDiff, Int.reduceEq, eq_self, if_true]
      repeat' (first | apply And.intro | intro)
      all_goals (try first | omega | contradiction | exact Or.inl trivial | exact Or.inr trivial)
    | succ m ih =>
      intro j l1 l3 I4 a0 a1 a2 a3 a4 a5 a6 a7 a8 a9
      refine b56_42 ?_
      try simp only [w_Ug, reduceIte, Nat.reduceEqDiff, Int.reduceEq, eq_self, if_true]
      repeat' (first | apply And.intro | intro)
      all_goals (try first | omega | contradiction | exact Or.inl trivial | exact Or.inr trivial)
      have dv : 0 ≤ l3 / s 1 ∧ l3 / s 1 ≤ 100 := by
        refine ⟨Int.ediv_nonneg (by omega) (by omega), ?_⟩
        have := Int.ediv_le_self (s 1) (show 0 ≤ l3 by omega)
        omega
      have inner : ∀ (q : Nat) (l1 : Int), l1 + q = n → 0 ≤ l1 → (∀ i, 0 ≤ i → i < l1 → m_kf s (s 1) (r i) ≤ l3 / s 1) → w_T xs xl 56 48 [some (.ref 89), some (w_i l1), some (w_i (s 1)), some (w_i l3)] [] [] I4 J b Q := by
        intro q
        have put : ∀ (l1 : Int), 0 ≤ l1 → l1 ≤ n → (∀ i, 0 ≤ i → i < l1 → m_kf s (s 1) (r i) ≤ l3 / s 1) → (∀ i, l1 ≤ i → i < n → l3 / s 1 < m_kf s (s 1) (r i)) → w_C xs xl 31 [.ref 78, w_i l3] I4 J b (fun v Ic Jc bc => w_T xs xl 56 103 [some (.ref 89), some (w_i l1), some (w_i (s 1)), some (w_i l3)] [] (w_pv v [w_i (I4 90 l1), w_i l1, .ref 90]) Ic Jc bc Q) := by
          intro l1 b1 b2 b3 b4
          have po := m_po_e (s := s) (n := n) (p := l1) (a := l3) (r := r) ⟨b1, b2⟩ b3 b4
          refine c31 (pK_cd a5 cd) (by omega) (fun I5 fr5 => ?_)
          refine b56_103 ?_
          try simp only [w_Ug, reduceIte, Nat.reduceEqDiff, Int.reduceEq, eq_self, if_true]
          repeat' (first | apply And.intro | intro)
          all_goals (try first | omega | contradiction | exact Or.inl trivial | exact Or.inr trivial)
          refine ih (j + 1) l1 _ _ (by omega) (by omega) b1 b2 (fun i x y => ?_) (w_frU (w_frt a5 (pV_K fr5)) rfl) ?_ ?_ (fun f x y => ?_) (fun p x y => ?_)
          · have := b3 i x y
            have := Int.ediv_le_ediv (show 0 < s 1 by omega) (show l3 ≤ l3 + 1 by omega)
            omega
          · rw [w_Ua (by decide), fr5 78 6 rfl]; exact a6
          · rw [w_Ua (by decide), w_frA fr5 (fun _ => rfl)]; exact a7
          · rw [w_Ua (by decide), w_frA fr5 (fun _ => rfl)]; exact a8 f x y
          · rw [w_Ug, if_pos rfl]
            have ws : m_wt F s n r p (j + 1) = m_wt F s n r p j + (if m_po s n r j = p then m_comb F s j else 0) := m_sum_s _ _
            rw [← a1, po] at ws
            rw [ws]
            by_cases e : p = l1
            · rw [if_pos e, if_pos e.symm, a9 l1 b1 b2, e]
            · rw [if_neg e, if_neg (fun h => e h.symm), w_frA (a := 90) fr5 (fun _ => rfl), a9 p x y]
              omega
        induction q with
        | zero =>
          intro l1 b0 b1 b2
          have pp := put l1 b1 (by omega) b2 (fun i x y => by omega)
          refine b56_48 ?_
          try simp only [w_Ug, reduceIte, Nat.reduceEqDiff, Int.reduceEq, eq_self, a6]
          repeat' (first | apply And.intro | intro)
          all_goals (try first | omega | contradiction | exact Or.inl trivial | exact Or.inr trivial)
        | succ q ihq =>
          intro l1 b0 b1 b2
          have fb := m_S_in (s := s) (c := -1) (Or.inl rfl) _ (r2.2.1 l1 b1 (by omega))
          have e84 : I4 84 l1 = r l1 := by rw [a7]
          have e83 := a8 (r l1) fb.1 fb.2
          have kb := m_kf_b w (st := s 1) (g := r l1) (by omega)
          by_cases cc : l3 / s 1 < m_kf s (s 1) (r l1)
          · have pp := put l1 b1 (by omega) b2 (fun i x y => by
              have := kfs l1 i b1 x y
              omega)
            refine b56_48 ?_
            try simp only [w_Ug, reduceIte, Nat.reduceEqDiff, Int.reduceEq, eq_self, a6, e84, e83]
            repeat' (first | apply And.intro | intro)
            all_goals (try first | omega | contradiction | exact Or.inl trivial | exact Or.inr trivial)
          · refine b56_48 ?_
            try simp only [w_Ug, reduceIte, Nat.reduceEqDiff, Int.reduceEq, eq_self, a6, e84, e83]
            repeat' (first | apply And.intro | intro)
            all_goals (try first | omega | contradiction | exact Or.inl trivial | exact Or.inr trivial)
            refine ihq (l1 + 1) (by omega) (by omega) (fun i x y => ?_)
            by_cases e : i = l1
            · subst e; omega
            · exact b2 i x (by omega)
      exact inner (n - l1).toNat l1 (by omega) a2 a4
  refine outer 100 0 0 0 I3 (by omega) rfl (by omega) n0 (fun i x y => by omega) fr3 n3 hr84 a83 (fun p x y => ?_)
  rw [z3 p x (by omega)]
  rfl
end
