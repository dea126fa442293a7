section
/-! the reference: LEAST -/
variable {xs : Nat → Int32} {xl : Nat} {I J : w_I} {b : Bool} {Q : Option Value → w_I → w_I → Bool → Prop}
variable {s : Int → Int}
theorem l_v_c {pay pay' : Int → Int → Int} {H lo hi : Int} (hp : ∀ i h, lo ≤ i → i < hi → pay i h = pay' i h) : ∀ (k : Nat) (i : Int) (j : Nat), lo ≤ i → i + k ≤ hi → l_v pay H k i j = l_v pay' H k i j
  | 0, _, _, _, _ => rfl
  | k + 1, i, j, a, c => by
    rw [l_v_s, l_v_s]
    refine l_row_c j (fun j' _ => ⟨l_v_c hp k (i + 1) j' (by omega) (by omega), ?_⟩)
    unfold l_g
    exact hp i _ a (by omega)
theorem l_pk_c {f f' g g' : Nat → Int} : ∀ j : Nat, (∀ i, i ≤ j → f i = f' i ∧ g i = g' i) → l_pk f g j = l_pk f' g' j
  | 0, _ => rfl
  | j + 1, h => by
    obtain ⟨h1, h2⟩ := h (j + 1) (by omega)
    rw [l_pk_s, l_pk_s, h1, h2, l_row_c j (fun i hi => h i (by omega)), l_pk_c j (fun i hi => h i (by omega))]
theorem l_js_c {pay pay' : Int → Int → Int} {H : Int} {n : Nat} (hp : ∀ i h : Int, 0 ≤ i → i < (n : Int) → pay i h = pay' i h) : ∀ i : Nat, i ≤ n → l_js pay H n i = l_js pay' H n i
  | 0, _ => rfl
  | i + 1, h => by
    rw [l_js_s, l_js_s, l_js_c hp i (by omega)]
    refine l_pk_c _ (fun j' _ => ⟨l_v_c (lo := 0) (hi := n) hp _ _ _ (by omega) (by omega), ?_⟩)
    unfold l_g
    exact hp _ _ (by omega) (by omega)
theorem l_at_c {pay pay' : Int → Int → Int} {H : Int} {n i : Nat} (hp : ∀ i h : Int, 0 ≤ i → i < (n : Int) → pay i h = pay' i h) (hi : i < n) : l_at pay H n i = l_at pay' H n i := by
  unfold l_at
  rw [l_js_c hp (i + 1) (by omega)]
def m_tt (s : Int → Int) : Prop := 0 < m_sum (fun h => if s (20 + h) = 1 then 1 else 0) (s 0).toNat ∧ 0 < m_sum (fun h => if s (20 + h) = 2 then 1 else 0) (s 0).toNat
theorem s236 (hs : I 110 = s) (w : m_w0 s) (k1 : m_tt s → Q (some (w_i 1)) I J b) (k0 : ¬ m_tt s → Q (some (w_i 0)) I J b) : w_C xs xl 236 [.ref 104] I J b Q := by
  have w0 := w.1
  refine e236 (b236_0 ?_)
  have loop : ∀ (m n : Nat) (l1 l2 l3 : Int), (n : Int) + m = s 0 → l3 = n → (l1 = 0 ∨ l1 = 1) → (l2 = 0 ∨ l2 = 1) → (0 ≤ m_sum (fun h => if s (20 + h) = 1 then 1 else 0) n ∧ 0 ≤ m_sum (fun h => if s (20 + h) = 2 then 1 else 0) n) → (l1 = 1 ↔ 0 < m_sum (fun h => if s (20 + h) = 1 then 1 else 0) n) → (l2 = 1 ↔ 0 < m_sum (fun h => if s (20 + h) = 2 then 1 else 0) n) →
      w_T xs xl 236 6 [some (.ref 104), some (w_i l1), some (w_i l2), some (w_i l3)] [] [] I J b Q := by
    intro m
    induction m with
    | zero =>
      intro n l1 l2 l3 a0 a1 a2 a3 a6 a4 a5
      have en : (s 0).toNat = n := by omega
      have h1 : l1 = 1 ∧ l2 = 1 → Q (some (w_i 1)) I J b := fun x => k1 (by unfold m_tt; rw [en]; exact ⟨a4.mp x.1, a5.mp x.2⟩)
      have h0 : ¬ (l1 = 1 ∧ l2 = 1) → Q (some (w_i 0)) I J b := fun x => k0 (by unfold m_tt; rw [en]; exact fun y => x ⟨a4.mpr y.1, a5.mpr y.2⟩)
      refine b236_6 ?_
      try simp only [w_Ug, reduceIte, Nat.reduceEqDiff, Int.reduceEq, eq_self, hs]
      repeat' (first | apply And.intro | intro)
      all_goals (try first | omega | contradiction | exact Or.inl trivial | exact Or.inr trivial)
      all_goals first | exact h1 (by omega) | exact h0 (by omega)
    | succ m ih =>
      intro n l1 l2 l3 a0 a1 a2 a3 a6 a4 a5
      have w1 := (w.2.1 l3 (by omega) (by omega)).1
      have t1 := m_sum_s (fun h => if s (20 + h) = 1 then 1 else 0) n
      have t2 := m_sum_s (fun h => if s (20 + h) = 2 then 1 else 0) n
      try dsimp only at t1 t2
      rw [← a1] at t1 t2
      generalize m_sum (fun h => if s (20 + h) = 1 then 1 else 0) n = x1 at t1 a4 a6
      generalize m_sum (fun h => if s (20 + h) = 2 then 1 else 0) n = x2 at t2 a5 a6
      have q1 : (s (20 + l3) = 1 → (if s (20 + l3) = 1 then (1 : Int) else 0) = 1) ∧ (s (20 + l3) ≠ 1 → (if s (20 + l3) = 1 then (1 : Int) else 0) = 0) := ⟨fun x => if_pos x, fun x => if_neg x⟩
      have q2 : (s (20 + l3) = 2 → (if s (20 + l3) = 2 then (1 : Int) else 0) = 1) ∧ (s (20 + l3) ≠ 2 → (if s (20 + l3) = 2 then (1 : Int) else 0) = 0) := ⟨fun x => if_pos x, fun x => if_neg x⟩
      generalize (if s (20 + l3) = 1 then (1 : Int) else 0) = y1 at t1 q1
      generalize (if s (20 + l3) = 2 then (1 : Int) else 0) = y2 at t2 q2
      refine b236_6 ?_
      try simp only [w_Ug, reduceIte, Nat.reduceEqDiff, Int.reduceEq, eq_self, hs]
      repeat' (first | apply And.intro | intro)
      all_goals (try first | omega | contradiction | exact Or.inl trivial | exact Or.inr trivial)
      all_goals exact ih (n + 1) _ _ (l3 + 1) (by omega) (by omega) (by omega) (by omega) (by rw [t1, t2]; omega) (by rw [t1]; omega) (by rw [t2]; omega)
  exact loop (s 0).toNat 0 0 0 0 (by omega) rfl (Or.inl rfl) (Or.inl rfl) ⟨Int.le_refl _, Int.le_refl _⟩ ⟨fun x => by omega, fun x => by exact absurd x (by simp [m_sum])⟩ ⟨fun x => by omega, fun x => by exact absurd x (by simp [m_sum])⟩
/-- what the i-th of the row pays -/
def m_pf (F : m_F) (s : Int → Int) (cs : Int) (r : Int → Int) : Int → Int → Int := m_pay F s cs (fun i => m_hm s (r i)) (fun i => m_ga s (r i)) (fun i => m_gs s (r i)) (fun i => m_gl s (r i))
def m_V (F : m_F) (s : Int → Int) (n : Int) (r : Int → Int) : Int := l_v (m_pf F s 1 r) (s 0) n.toNat 0 (s 0 - n).toNat
theorem q_pf {F : m_F} {cs n : Int} {r : Int → Int} {S : Int → Prop} {kf : Int → Int} (q : q_ok I n S kf (m_hm s) (m_ga s) (m_gs s) (m_gl s)) (hr : ∀ i, 0 ≤ i → i < n → I 126 i = r i) : ∀ i h, 0 ≤ i → i < n → m_pay F s cs (I 128) (I 129) (I 130) (I 131) i h = m_pf F s cs r i h := by
  intro i h x y
  obtain ⟨-, q2, q3, q4, q5⟩ := q.2 i x y
  have hr := hr i x y
  unfold m_pf m_pay
  rw [q2, q3, q4, q5, hr]
theorem m_ga_b (w : m_w0 s) {f : Int} : 0 ≤ m_ga s f ∧ m_ga s f ≤ 199 := m_ag_b (f := f) (g := -1) (t := 0) (by' := s 3) w
theorem m_gs_b (w : m_w0 s) {f : Int} : 0 ≤ m_gs s f ∧ m_gs s f ≤ 60 := m_sz_b w (f := f) (g := -1)
theorem m_gl_b (w : m_w0 s) {f : Int} : 0 ≤ m_gl s f ∧ m_gl s f ≤ 60 := m_lm_b w (f := f) (g := -1)
theorem q_q_in {n : Int} {S : Int → Prop} {kf : Int → Int} (w : m_w0 s) (q : q_ok I n S kf (m_hm s) (m_ga s) (m_gs s) (m_gl s)) (hS : ∀ g, S g → 0 ≤ g ∧ g < s 8) : q_in I n := by
  intro i x y
  have w0 := w.1
  obtain ⟨-, q2, q3, q4, q5⟩ := q.2 i x y
  have hb := hS _ (q.1.2.1 i x y)
  have w3 := w.2.2.2.1 _ hb.1 hb.2
  have b1 := m_ga_b w (f := I 126 i)
  have b2 := m_gs_b w (f := I 126 i)
  have b3 := m_gl_b w (f := I 126 i)
  rw [q2, q3, q4, q5]
  refine ⟨?_, by omega, by omega, by omega⟩
  unfold m_hm
  split <;> omega
abbrev m_cm (s : Int → Int) (f : Int) : Prop := f = -1 ∨ (m_isF s f ∧ s (460 + 3 * f + 1) = -2)
theorem m_S_in {c : Int} (hc : m_cm s c) : ∀ g, m_S s c g → 0 ≤ g ∧ g < s 8 := by
  intro g hg
  rcases hg with x | x
  · exact ⟨x.1.1, x.1.2.1⟩
  · rcases hc with y | y
    · exact absurd y x.2
    · rw [x.1]; exact ⟨y.1.1, y.1.2.1⟩
def pP (a : Nat) (k : Int) : Bool := pR a k || pM a k
theorem pR_P {I I' : w_I} (h : w_fr pR I I') : w_fr pP I I' := w_frm h (fun a k e => by
  unfold pP at e
  cases h : pR a k
  · rfl
  · rw [h, Bool.true_or] at e; cases e)
theorem pM_P {I I' : w_I} (h : w_fr pM I I') : w_fr pP I I' := w_frm h (fun a k e => by
  unfold pP at e
  cases h : pM a k
  · rfl
  · rw [h, Bool.or_true] at e; cases e)
theorem m_row_b1 (wf : m_wf s) {c n : Int} {r : Int → Int} (hc : m_cm s c) (hr : r_ok n r (m_S s c) (m_rk s (m_kf s (s 1)))) : n ≤ s 0 + 1 := by
  have w0 := wf.1.1
  have h0 := hr.1
  apply Decidable.byContradiction
  intro hn
  -- all but the comer live
  have liv : ∀ i, 0 ≤ i → i < n → r i ≠ c → m_isF s (r i) ∧ 0 ≤ s (460 + 3 * r i + 1) := fun i x y z => by
    rcases hr.2.1 i x y with u | u
    · exact u
    · exact absurd u.1 z
  have inj : ∀ i j, 0 ≤ i → i < j → j < n → r i ≠ r j := fun i j x y z e => by
    have := hr.2.2.2 i j x y z
    rw [e] at this
    omega
  have := m_pig (n := n.toNat) (H := (s 0 + 1).toNat) (g := fun i => if r i = c then s 0 else s (460 + 3 * r i + 1)) (fun i hi => by
    try dsimp only
    split
    · omega
    · rename_i e
      have l := liv i (by omega) (by omega) e
      have := wf.1.2.2.2.1 _ l.1.1 l.1.2.1
      omega) (fun i j hij hj => by
    try dsimp only
    have ij := inj i j (by omega) (by omega) (by omega)
    split
    · rename_i e
      split
      · rename_i e'
        rw [e, e'] at ij
        exact absurd rfl ij
      · rename_i e'
        have l := liv j (by omega) (by omega) e'
        have := wf.1.2.2.2.1 _ l.1.1 l.1.2.1
        omega
    · rename_i e
      have l := liv i (by omega) (by omega) e
      have := wf.1.2.2.2.1 _ l.1.1 l.1.2.1
      split
      · omega
      · rename_i e'
        have l' := liv j (by omega) (by omega) e'
        intro x
        exact ij (wf.2.2.2 _ _ l.1 l'.1 l.2 x))
  omega
theorem s245 {F : m_F} {c n : Int} {r : Int → Int} (hs : I 110 = s) (hF : m_at I F) (wf : m_wf s) (cd : m_cd F s) (hc : m_cm s c) (hr : r_ok n r (m_S s c) (m_rk s (m_kf s (s 1))))
    (k1 : ¬ m_tt s → n ≤ s 0 → ∀ I', w_fr pP I I' → I' 104 36 = n → (∀ i, 0 ≤ i → i < n → I' 126 i = r i) → (∀ i : Nat, i < n → I' 133 i = l_at (m_pf F s 1 r) (s 0) n.toNat i) → Q (some (w_i (m_V F s n r))) I' J b)
    (k0 : m_tt s ∨ s 0 < n → ∀ I', w_fr pP I I' → Q (some (w_i 100000000)) I' J b) : w_C xs xl 245 [.ref 104, w_i c] I J b Q := by
  have w := wf.1
  have w0 := w.1
  have n0 := hr.1
  have nb := m_row_b1 wf hc hr
  have cin : w_in c := by
    rcases hc with x | x
    · omega
    · have := x.1.1; have := x.1.2.1; omega
  refine e245 (b245_0 ?_)
  rw [hs]
  refine s238a hs wf (by omega) (fun n1 I1 fr1 e1 q1 => ?_)
  have hs1 : I1 110 = s := (w_frA fr1 (fun _ => rfl)).trans hs
  have nb1 := m_row_b wf (q_m_rk (s := s) (kf := m_kf s (s 1)) ▸ q1.1)
  have go : ∀ (I2 : w_I) (u1 u2 : Option Value), w_fr pR I I2 → I2 104 36 = n → q_ok I2 n (m_S s c) (m_kf s (s 1)) (m_hm s) (m_ga s) (m_gs s) (m_gl s) → (∀ i, 0 ≤ i → i < n → I2 126 i = r i) → w_C xs xl 236 [.ref 104] I2 J b (fun v Ic Jc bc => w_T xs xl 245 24 [some (.ref 104), u1, u2] [] (w_pv v []) Ic Jc bc Q) := by
    intro I2 u1 u2 fr2 e2 q2 r2
    have hs2 : I2 110 = s := (w_frA fr2 (fun _ => rfl)).trans hs
    have hF2 := m_at_fr hF fr2 (fun _ => rfl) (fun _ => rfl) (fun _ => rfl) (fun _ => rfl) (fun _ => rfl) (fun _ => rfl) (fun _ => rfl) (fun _ => rfl)
    refine s236 hs2 w (fun ht => ?_) (fun ht => ?_)
    · have kk := k0 (Or.inl ht) I2 (pR_P fr2)
      refine b245_24 ?_
      try simp only [w_Ug, reduceIte, Nat.reduceEqDiff, Int.reduceEq, eq_self, hs2, e2]
      repeat' (first | apply And.intro | intro)
      all_goals (try first | omega | contradiction | exact Or.inl trivial | exact Or.inr trivial)
    · by_cases hn : n ≤ s 0
      · have qin := q_q_in w q2 (m_S_in hc)
        have pf := q_pf (F := F) (cs := 1) q2 r2
        refine b245_24 ?_
        try simp only [w_Ug, reduceIte, Nat.reduceEqDiff, Int.reduceEq, eq_self, hs2, e2]
        repeat' (first | apply And.intro | intro)
        all_goals (try first | omega | contradiction | exact Or.inl trivial | exact Or.inr trivial)
        refine s243 hs2 hF2 w cd e2 (by omega) (Or.inr rfl) qin (fun I3 fr3 t3 => b245_55 ?_)
        have hs3 : I3 110 = s := (w_frA fr3 (fun _ => rfl)).trans hs2
        have hF3 := m_at_fr hF2 fr3 (fun _ => rfl) (fun _ => rfl) (fun _ => rfl) (fun _ => rfl) (fun _ => rfl) (fun _ => rfl) (fun _ => rfl) (fun _ => rfl)
        have e3 : I3 104 36 = n := by rw [fr3 104 36 rfl]; exact e2
        have x8 := w_frA (a := 128) fr3 (fun _ => rfl)
        have x9 := w_frA (a := 129) fr3 (fun _ => rfl)
        have x10 := w_frA (a := 130) fr3 (fun _ => rfl)
        have x11 := w_frA (a := 131) fr3 (fun _ => rfl)
        have q3 : q_in I3 n := by unfold q_in; rw [x8, x9, x10, x11]; exact qin
        rw [← x8, ← x9, ← x10, ← x11] at t3 pf ⊢
        refine s244 hs3 hF3 w cd e3 (by omega) q3 t3 (fun I4 fr4 p4 => b245_60 ?_)
        have ev : l_D (m_pay F s 1 (I3 128) (I3 129) (I3 130) (I3 131)) (s 0) n.toNat 0 (s 0).toNat = m_V F s n r := by
          have := l_D_v (pay := m_pay F s 1 (I3 128) (I3 129) (I3 130) (I3 131)) (H := s 0) (lo := 0) (hi := n) (fun i h _ _ _ _ => m_pay_b) (by omega) n.toNat 0 (s 0 - n).toNat (by omega) (by omega) (by omega)
          rw [show (s 0).toNat = n.toNat + (s 0 - n).toNat by omega, this]
          exact l_v_c (lo := 0) (hi := n) pf _ _ _ (by omega) (by omega)
        rw [ev]
        refine k1 ht hn I4 (w_frt (pR_P fr2) (w_frt (pM_P (pL_M fr3)) (pM_P fr4))) (by rw [fr4 104 36 rfl]; exact e3) (fun i x y => ?_) (fun i hi => ?_)
        · rw [w_frA (a := 126) fr4 (fun _ => rfl), w_frA (a := 126) fr3 (fun _ => rfl)]
          exact r2 i x y
        · rw [p4 i hi]
          exact l_at_c (fun i' h x y => pf i' h x (by omega)) (by omega)
      · have kk := k0 (Or.inr (by omega)) I2 (pR_P fr2)
        refine b245_24 ?_
        try simp only [w_Ug, reduceIte, Nat.reduceEqDiff, Int.reduceEq, eq_self, hs2, e2]
        repeat' (first | apply And.intro | intro)
        all_goals (try first | omega | contradiction | exact Or.inl trivial | exact Or.inr trivial)
  rcases hc with x | x
  · subst x
    obtain ⟨ru1, ru2⟩ := r_uniq (q_m_rk (s := s) (kf := m_kf s (s 1)) ▸ q1.1) hr (m_S_inj wf (Or.inl rfl) (fun g _ => by have := m_kf_b w (st := s 1) (g := g) (by omega); omega))
    subst ru1
    have g1 := fun u => go I1 (some (w_i (-1))) u fr1 e1 q1 ru2
    refine b245_11 ?_
    try simp only [w_Ug, reduceIte, Nat.reduceEqDiff, Int.reduceEq, eq_self, if_true]
    repeat' (first | apply And.intro | intro)
    all_goals (try first | omega | contradiction | exact Or.inl trivial | exact Or.inr trivial)
    exact g1 _
  · have x1 := x.1.1
    have x2 := x.2
    refine b245_11 ?_
    try simp only [w_Ug, reduceIte, Nat.reduceEqDiff, Int.reduceEq, eq_self, if_true]
    repeat' (first | apply And.intro | intro)
    all_goals (try first | omega | contradiction | exact Or.inl trivial | exact Or.inr trivial)
    refine s239 hs1 wf ⟨x.1, by omega⟩ e1 (by omega) q1 hr (fun I2 fr2 e2 q2 r2 => b245_20 ?_)
    exact go I2 _ _ (w_frt fr1 fr2) e2 q2 r2
theorem s246 {f : Int} (hs : I 110 = s) (w : m_w0 s) (hf : w_in f) (k1 : m_cm s f → Q (some (w_i 1)) I J b) (k0 : ¬ m_cm s f → Q (some (w_i 0)) I J b) : w_C xs xl 246 [.ref 104, w_i f] I J b Q := by
  have w0 := w.1
  refine e246 ?_
  by_cases e : f = -1
  · have kk := k1 (Or.inl e)
    refine b246_0 ?_
    try simp only [w_Ug, reduceIte, Nat.reduceEqDiff, Int.reduceEq, eq_self, if_true]
    repeat' (first | apply And.intro | intro)
    all_goals (try first | omega | contradiction | exact Or.inl trivial | exact Or.inr trivial)
  · refine b246_0 ?_
    try simp only [w_Ug, reduceIte, Nat.reduceEqDiff, Int.reduceEq, eq_self, if_true]
    repeat' (first | apply And.intro | intro)
    all_goals (try first | omega | contradiction | exact Or.inl trivial | exact Or.inr trivial)
    refine s211 hs w hf (fun h => ?_) (fun h => ?_)
    · have h1 := h.1
      have h2 := h.2.1
      have w3 := w.2.2.2.1 f h1 h2
      refine b246_10 ?_
      try simp only [w_Ug, reduceIte, Nat.reduceEqDiff, Int.reduceEq, eq_self, if_true]
      repeat' (first | apply And.intro | intro)
      all_goals (try first | omega | contradiction | exact Or.inl trivial | exact Or.inr trivial)
      refine s213 hs (by omega) ?_
      refine b246_18 ?_
      try simp only [w_Ug, reduceIte, Nat.reduceEqDiff, Int.reduceEq, eq_self, if_true]
      repeat' (first | apply And.intro | intro)
      all_goals (try first | omega | contradiction | exact Or.inl trivial | exact Or.inr trivial)
      · exact k0 (fun x => by omega)
      · exact k1 (Or.inr ⟨h, by omega⟩)
    · have kk := k0 (fun x => x.elim e (fun y => h y.1))
      refine b246_10 ?_
      try simp only [w_Ug, reduceIte, Nat.reduceEqDiff, Int.reduceEq, eq_self, if_true]
      repeat' (first | apply And.intro | intro)
      all_goals (try first | omega | contradiction | exact Or.inl trivial | exact Or.inr trivial)
end
