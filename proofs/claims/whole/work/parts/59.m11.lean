section
/-! the reference: the row laid; call: row -/
variable {xs : Nat → Int32} {xl : Nat} {I J : w_I} {b : Bool} {Q : Option Value → w_I → w_I → Bool → Prop}
variable {s : Int → Int}
/-- as many as places -/
theorem m_sum_le {P R : Int → Int} : ∀ n : Nat, (∀ i : Nat, i < n → P i ≤ R i) → m_sum P n ≤ m_sum R n
  | 0, _ => Int.le_refl _
  | n + 1, h => by
    have := m_sum_le (P := P) (R := R) n (fun i hi => h i (by omega))
    have := h n (by omega)
    rw [m_sum_s, m_sum_s]
    omega
theorem m_sum_k {c : Int} : ∀ n : Nat, m_sum (fun _ => c) n = c * n
  | 0 => by simp [m_sum]
  | n + 1 => by
    rw [m_sum_s, m_sum_k n, Int.natCast_add, Int.mul_add]
    simp
theorem m_pig {n H : Nat} {g : Int → Int} (hg : ∀ i : Nat, i < n → 0 ≤ g i ∧ g i < H) (inj : ∀ i j : Nat, i < j → j < n → g i ≠ g j) : n ≤ H := by
  have e1 : m_sum (fun i => m_sum (fun h => if g i = h then 1 else 0) H) n = n := by
    have : m_sum (fun i => m_sum (fun h => if g i = h then 1 else 0) H) n = m_sum (fun _ => 1) n := by
      refine m_sum_c _ (fun i hi => ?_)
      have := hg i hi
      try dsimp only
      rw [m_sum_one (j := (g i).toNat) H (by omega) (fun h hh hne => if_neg (by omega))]
      exact if_pos (by omega)
    rw [this, m_sum_k]
    omega
  rw [m_sum_sw] at e1
  have e2 : m_sum (fun h => m_sum (fun i => if g i = h then 1 else 0) n) H ≤ m_sum (fun _ => 1) H := by
    refine m_sum_le _ (fun h hh => ?_)
    try dsimp only
    by_cases c : ∃ i : Nat, i < n ∧ g i = h
    · obtain ⟨i, hi, hc⟩ := c
      rw [m_sum_one (j := i) n hi (fun j hj hne => if_neg (fun x => by
        by_cases y : j < i
        · exact inj j i y hi (by omega)
        · exact inj i j (by omega) hj (by omega)))]
      rw [if_pos hc]
      omega
    · rw [m_sum_nil _ (fun i hi => if_neg (fun x => c ⟨i, hi, x⟩))]
      omega
  rw [e1, m_sum_k] at e2
  omega
def m_hm (s : Int → Int) (g : Int) : Int := if s (460 + 3 * g + 1) < 0 then -1 else s (460 + 3 * g + 1)
def q_ps (h : Int) : Int := if h < 0 then 1000 else h
theorem q_psb {h : Int} (hh : -1 ≤ h ∧ h < 100) : (h = -1 → q_ps h = 1000) ∧ (0 ≤ h → q_ps h = h) := by
  unfold q_ps
  exact ⟨fun x => if_pos (by omega), fun x => if_neg (by omega)⟩
def q_rk (kf hs : Int → Int) (g : Int) : Int := kf g * 2000 + q_ps (hs g)
theorem q_m_rk {kf : Int → Int} : q_rk kf (m_hm s) = m_rk s kf := by
  funext g
  unfold q_rk m_rk q_ps m_hm m_ps
  by_cases c : s (460 + 3 * g + 1) < 0
  · simp only [if_pos c]; rfl
  · simp only [if_neg c]
/-- the reference's row -/
def q_ok (I : w_I) (n : Int) (S : Int → Prop) (kf hs ag sz lm : Int → Int) : Prop := r_ok n (I 126) S (q_rk kf hs) ∧ ∀ i, 0 ≤ i → i < n → I 127 i = kf (I 126 i) ∧ I 128 i = hs (I 126 i) ∧ I 129 i = ag (I 126 i) ∧ I 130 i = sz (I 126 i) ∧ I 131 i = lm (I 126 i)
theorem s237q {n f : Int} {S : Int → Prop} {kf hs ag sz lm : Int → Int} (hn : I 104 36 = n) (hb : n < 32) (q : q_ok I n S kf hs ag sz lm) (hS : ∀ g, S g → (0 ≤ kf g ∧ kf g < 1000) ∧ (0 ≤ hs g ∧ hs g < 100) ∧ hs g ≠ hs f) (hf : (0 ≤ kf f ∧ kf f < 1000) ∧ (-1 ≤ hs f ∧ hs f < 100))
    (k : ∀ I', w_fr p237 I I' → I' 104 36 = n + 1 → q_ok I' (n + 1) (fun g => S g ∨ g = f) kf hs ag sz lm → Q none I' J b) : w_C xs xl 237 [.ref 104, w_i f, w_i (kf f), w_i (hs f), w_i (ag f), w_i (sz f), w_i (lm f)] I J b Q := by
  obtain ⟨hr, hq⟩ := q
  have h0 := hr.1
  refine s237 hn ⟨h0, hb⟩ (by omega) (by omega) (fun i x y => ?_) (fun p I' fr n' p0 p1 ins gt ngt => ?_)
  · have := hS _ (hr.2.1 i x y)
    obtain ⟨q1, q2, -⟩ := hq i x y
    rw [q1, q2]
    omega
  · have pf := q_psb hf.2
    refine k I' fr n' ⟨r_ext (r_ins hr (p := p) (x := f) ⟨p0, p1⟩ (fun i x y => ?_) (fun i x y => ?_)) (fun i x y => (ins i x (by omega)).1) (fun g => Iff.rfl), fun i x y => ?_⟩
    · obtain ⟨z1, z2, z3⟩ := hS _ (hr.2.1 (p - 1) (by omega) (by omega))
      obtain ⟨q1, q2, -⟩ := hq (p - 1) (by omega) (by omega)
      have ngt := ngt (by omega)
      rw [q1, q2] at ngt
      have pg := q_psb (h := hs (I 126 (p - 1))) (by omega)
      have c : q_rk kf hs (I 126 (p - 1)) < q_rk kf hs f := by
        unfold q_rk
        omega
      by_cases e : i = p - 1
      · rw [e]; exact c
      · have := hr.2.2.2 i (p - 1) x (by omega) (by omega)
        omega
    · obtain ⟨z1, z2, z3⟩ := hS _ (hr.2.1 i (by omega) y)
      obtain ⟨q1, q2, -⟩ := hq i (by omega) y
      have gt := gt i x y
      rw [q1, q2] at gt
      have pg := q_psb (h := hs (I 126 i)) (by omega)
      unfold q_rk
      omega
    · obtain ⟨i1, i2, i3, i4, i5, i6⟩ := ins i x (by omega)
      rw [i1, i2, i3, i4, i5, i6]
      unfold r_insf
      by_cases c1 : i < p
      · simp only [if_pos c1]
        exact hq i x (by omega)
      · by_cases c2 : i = p
        · simp only [if_neg c1, if_pos c2]
          exact ⟨trivial, trivial, trivial, trivial, trivial⟩
        · simp only [if_neg c1, if_neg c2]
          exact hq (i - 1) (by omega) (by omega)
def pR (a : Nat) (k : Int) : Bool := p216 a k || p237 a k
theorem p216_R {I I' : w_I} (h : w_fr p216 I I') : w_fr pR I I' := w_frm h (fun a k e => by
  unfold pR at e
  cases h : p216 a k
  · rfl
  · rw [h, Bool.true_or] at e; cases e)
theorem p237_R {I I' : w_I} (h : w_fr p237 I I') : w_fr pR I I' := w_frm h (fun a k e => by
  unfold pR at e
  cases h : p237 a k
  · rfl
  · rw [h, Bool.or_true] at e; cases e)
abbrev m_ga (s : Int → Int) (g : Int) : Int := m_ag s g (-1) 0 (s 3)
abbrev m_gs (s : Int → Int) (g : Int) : Int := m_sz s g (-1)
abbrev m_gl (s : Int → Int) (g : Int) : Int := m_lm s g (-1)
def m_kf (s : Int → Int) (st g : Int) : Int := m_ga s g / st
theorem m_kf_b (w : m_w0 s) {st g : Int} (hst : 1 ≤ st) : 0 ≤ m_kf s st g ∧ m_kf s st g ≤ 199 := by
  have hb := m_ag_b (f := g) (g := -1) (t := 0) (by' := s 3) w
  unfold m_kf m_ga
  refine ⟨Int.ediv_nonneg hb.1 (by omega), ?_⟩
  have := Int.ediv_le_self st hb.1
  omega
theorem m_S_inj (wf : m_wf s) {c : Int} {kf : Int → Int} (hc : c = -1 ∨ s (460 + 3 * c + 1) < 0) (hk : ∀ g, m_S s c g → 0 ≤ kf g ∧ kf g < 1000) : ∀ f g, m_S s c f → m_S s c g → m_rk s kf f = m_rk s kf g → f = g := by
  intro f g hf hg e
  have w0 := wf.1.1
  have k1 := hk f hf
  have k2 := hk g hg
  have b : ∀ x, m_S s c x → (m_ps s x = 1000 ∧ x = c ∧ c ≠ -1) ∨ (0 ≤ m_ps s x ∧ m_ps s x < 24 ∧ m_ps s x = s (460 + 3 * x + 1) ∧ m_isF s x) := by
    intro x hx
    unfold m_ps
    by_cases y : s (460 + 3 * x + 1) < 0
    · rw [if_pos y]
      rcases hx with z | z
      · omega
      · exact Or.inl ⟨rfl, z⟩
    · rw [if_neg y]
      rcases hx with z | z
      · have := wf.1.2.2.2.1 x z.1.1 z.1.2.1
        exact Or.inr ⟨by omega, by omega, rfl, z.1⟩
      · have : x = c := z.1
        have : c ≠ -1 := z.2
        rw [z.1] at y
        omega
  unfold m_rk at e
  rcases b f hf with x | x <;> rcases b g hg with y | y
  · rw [x.2.1, y.2.1]
  · omega
  · omega
  · exact wf.2.2.2 f g x.2.2.2 y.2.2.2 (by omega) (by omega)
theorem s238a {st : Int} (hs : I 110 = s) (wf : m_wf s) (hst : 1 ≤ st ∧ st ≤ 20)
    (k : ∀ n I', w_fr pR I I' → I' 104 36 = n → q_ok I' n (m_S s (-1)) (m_kf s st) (m_hm s) (m_ga s) (m_gs s) (m_gl s) → Q none I' J b) : w_C xs xl 238 [.ref 104, w_i st, w_i (-1)] I J b Q := by
  have w := wf.1
  have w0 := w.1
  refine e238 (b238_0 ?_)
  have loop : ∀ (m : Nat) (l3 n' : Int) (I1 : w_I), l3 + m = s 8 → 0 ≤ l3 → n' ≤ l3 → w_fr pR I I1 → I1 104 36 = n' → q_ok I1 n' (fun g => m_isF s g ∧ 0 ≤ s (460 + 3 * g + 1) ∧ g < l3) (m_kf s st) (m_hm s) (m_ga s) (m_gs s) (m_gl s) →
      w_T xs xl 238 7 [some (.ref 104), some (w_i st), some (w_i (-1)), some (w_i l3)] [] [] I1 J b Q := by
    intro m
    induction m with
    | zero =>
      intro l3 n' I1 a0 a1 a2 a3 a4 a5
      have hs1 : I1 110 = s := (w_frA a3 (fun _ => rfl)).trans hs
      have q1 : q_ok I1 n' (m_S s (-1)) (m_kf s st) (m_hm s) (m_ga s) (m_gs s) (m_gl s) := by
        refine ⟨r_ext a5.1 (fun _ _ _ => rfl) (fun g => ?_), a5.2⟩
        unfold m_S
        constructor
        · intro x; exact Or.inl ⟨x.1, x.2.1⟩
        · intro x
          rcases x with x | x
          · exact ⟨x.1, x.2, by have := x.1.2.1; omega⟩
          · exact absurd rfl x.2
      have kk := k n' I1 a3 a4 q1
      refine b238_7 ?_
      try simp only [w_Ug, reduceIte, Nat.reduceEqDiff, Int.reduceEq, eq_self, hs1]
      repeat' (first | apply And.intro | intro)
      all_goals (try first | omega | contradiction | exact Or.inl trivial | exact Or.inr trivial)
    | succ m ih =>
      intro l3 n' I1 a0 a1 a2 a3 a4 a5
      have hs1 : I1 110 = s := (w_frA a3 (fun _ => rfl)).trans hs
      have skip : ¬ (m_isF s l3 ∧ 0 ≤ s (460 + 3 * l3 + 1)) → w_T xs xl 238 7 [some (.ref 104), some (w_i st), some (w_i (-1)), some (w_i (l3 + 1))] [] [] I1 J b Q := by
        intro hn
        refine ih (l3 + 1) n' I1 (by omega) (by omega) (by omega) a3 a4 ⟨r_ext a5.1 (fun _ _ _ => rfl) (fun g => ?_), a5.2⟩
        constructor
        · intro x; exact ⟨x.1, x.2.1, by have := x.2.2; omega⟩
        · intro x
          refine ⟨x.1, x.2.1, ?_⟩
          have := x.2.2
          by_cases e : g = l3
          · subst e; exact absurd ⟨x.1, x.2.1⟩ hn
          · omega
      refine b238_7 ?_
      try simp only [w_Ug, reduceIte, Nat.reduceEqDiff, Int.reduceEq, eq_self, hs1]
      repeat' (first | apply And.intro | intro)
      all_goals (try first | omega | contradiction | exact Or.inl trivial | exact Or.inr trivial)
      refine s211 hs1 w (by omega) (fun hf => ?_) (fun hf => ?_)
      · have w3 := w.2.2.2.1 l3 a1 (by omega)
        refine b238_23 ?_
        try simp only [w_Ug, reduceIte, Nat.reduceEqDiff, Int.reduceEq, eq_self, if_true]
        repeat' (first | apply And.intro | intro)
        all_goals (try first | omega | contradiction | exact Or.inl trivial | exact Or.inr trivial)
        refine s213 hs1 (by omega) ?_
        by_cases hl : s (460 + 3 * l3 + 1) < 0
        · have sk := skip (fun x => by have := x.2; omega)
          refine b238_31 ?_
          try simp only [w_Ug, reduceIte, Nat.reduceEqDiff, Int.reduceEq, eq_self, if_true]
          repeat' (first | apply And.intro | intro)
          all_goals (try first | omega | contradiction | exact Or.inl trivial | exact Or.inr trivial)
        · refine b238_31 ?_
          try simp only [w_Ug, reduceIte, Nat.reduceEqDiff, Int.reduceEq, eq_self, if_true]
          repeat' (first | apply And.intro | intro)
          all_goals (try first | omega | contradiction | exact Or.inl trivial | exact Or.inr trivial)
          refine s217 hs1 w (by omega) (fun I2 fr2 e1 e2 e3 => ?_)
          have hs2 : I2 110 = s := (w_frA fr2 (fun _ => rfl)).trans hs1
          have hb := m_ag_b (f := l3) (g := -1) (t := 0) (by' := s 3) w
          refine b238_47 ?_
          try simp only [w_Ug, reduceIte, Nat.reduceEqDiff, Int.reduceEq, eq_self, e1, e2, e3]
          repeat' (first | apply And.intro | intro)
          all_goals (try first | omega | contradiction | exact Or.inl trivial | exact Or.inr trivial)
          refine s213 hs2 (by omega) (b238_60 ?_)
          rw [e1, e2, e3]
          have hhm : m_hm s l3 = s (460 + 3 * l3 + 1) := by unfold m_hm; rw [if_neg hl]
          have kb := m_kf_b w (g := l3) hst.1
          have e126 : I2 126 = I1 126 := w_frA fr2 (fun _ => rfl)
          have n2 : I2 104 36 = n' := by rw [fr2 104 36 rfl]; exact a4
          have q2 : q_ok I2 n' (fun g => m_isF s g ∧ 0 ≤ s (460 + 3 * g + 1) ∧ g < l3) (m_kf s st) (m_hm s) (m_ga s) (m_gs s) (m_gl s) := by
            unfold q_ok
            rw [e126, w_frA (a := 127) fr2 (fun _ => rfl), w_frA (a := 128) fr2 (fun _ => rfl), w_frA (a := 129) fr2 (fun _ => rfl), w_frA (a := 130) fr2 (fun _ => rfl), w_frA (a := 131) fr2 (fun _ => rfl)]
            exact a5
          have sq := s237q (f := l3) (xs := xs) (xl := xl) (J := J) (b := b) (Q := fun v Ic Jc bc => w_T xs xl 238 75 [some (.ref 104), some (w_i st), some (w_i (-1)), some (w_i l3)] [] (w_pv v []) Ic Jc bc Q) n2 (by omega) q2 (fun g hg => by
            have kg := m_kf_b w (g := g) hst.1
            have wg := w.2.2.2.1 g hg.1.1 hg.1.2.1
            have hg2 := hg.2.1
            have hg3 := hg.2.2
            have hgm : m_hm s g = s (460 + 3 * g + 1) := by unfold m_hm; rw [if_neg (by omega)]
            rw [hgm, hhm]
            refine ⟨by omega, by omega, fun x => ?_⟩
            have := wf.2.2.2 g l3 hg.1 hf hg2 x
            omega) (by rw [hhm]; omega) (fun I3 fr3 n3 q3 => ?_)
          · rw [hhm] at sq
            exact sq
          · refine b238_75 ?_
            refine ih (l3 + 1) (n' + 1) I3 (by omega) (by omega) (by omega) (w_frt a3 (w_frt (p216_R fr2) (p237_R fr3))) n3 ⟨r_ext q3.1 (fun _ _ _ => rfl) (fun g => ?_), q3.2⟩
            constructor
            · intro x
              rcases x with x | x
              · exact ⟨x.1, x.2.1, by have := x.2.2; omega⟩
              · rw [x]; exact ⟨hf, by omega, by omega⟩
            · intro x
              by_cases e : g = l3
              · exact Or.inr e
              · exact Or.inl ⟨x.1, x.2.1, by have := x.2.2; omega⟩
      · have sk := skip (fun x => hf x.1)
        refine b238_23 ?_
        try simp only [w_Ug, reduceIte, Nat.reduceEqDiff, Int.reduceEq, eq_self, if_true]
        repeat' (first | apply And.intro | intro)
        all_goals (try first | omega | contradiction | exact Or.inl trivial | exact Or.inr trivial)
  refine loop (s 8).toNat 0 0 _ (by omega) (by omega) (by omega) (w_frU w_frr rfl) (by rw [w_Ug, if_pos rfl, if_pos rfl]) ⟨r_nil (fun g x => by have := x.1.1; have := x.2.2; omega), fun i x y => by omega⟩
theorem s238 {st n : Int} {r : Int → Int} (hs : I 110 = s) (wf : m_wf s) (hst : 1 ≤ st ∧ st ≤ 20) (hr : r_ok n r (m_S s (-1)) (m_rk s (m_kf s st)))
    (k : ∀ I', w_fr pR I I' → I' 104 36 = n → q_ok I' n (m_S s (-1)) (m_kf s st) (m_hm s) (m_ga s) (m_gs s) (m_gl s) → (∀ i, 0 ≤ i → i < n → I' 126 i = r i) → Q none I' J b) : w_C xs xl 238 [.ref 104, w_i st, w_i (-1)] I J b Q := by
  refine s238a hs wf hst (fun n' I1 a3 a4 q1 => ?_)
  obtain ⟨ru1, ru2⟩ := r_uniq (q_m_rk (s := s) (kf := m_kf s st) ▸ q1.1) hr (m_S_inj wf (Or.inl rfl) (fun g _ => by have := m_kf_b wf.1 (g := g) hst.1; omega))
  subst ru1
  exact k I1 a3 a4 q1 ru2
theorem s239 {n n' c : Int} {r' : Int → Int} (hs : I 110 = s) (wf : m_wf s) (hc : m_isF s c ∧ s (460 + 3 * c + 1) < 0) (hn : I 104 36 = n) (hb : n < 31) (q : q_ok I n (m_S s (-1)) (m_kf s (s 1)) (m_hm s) (m_ga s) (m_gs s) (m_gl s)) (hr : r_ok n' r' (m_S s c) (m_rk s (m_kf s (s 1))))
    (k : ∀ I', w_fr pR I I' → I' 104 36 = n' → q_ok I' n' (m_S s c) (m_kf s (s 1)) (m_hm s) (m_ga s) (m_gs s) (m_gl s) → (∀ i, 0 ≤ i → i < n' → I' 126 i = r' i) → Q none I' J b) : w_C xs xl 239 [.ref 104, w_i c] I J b Q := by
  have w := wf.1
  have w0 := w.1
  have hc1 := hc.1.1
  have hc2 := hc.1.2.1
  refine e239 (b239_0 ?_)
  refine s217 hs w (by omega) (fun I2 fr2 e1 e2 e3 => ?_)
  have hs2 : I2 110 = s := (w_frA fr2 (fun _ => rfl)).trans hs
  have ab := m_ag_b (f := c) (g := -1) (t := 0) (by' := s 3) w
  refine b239_5 ?_
  try simp only [w_Ug, reduceIte, Nat.reduceEqDiff, Int.reduceEq, eq_self, hs2, e1, e2, e3]
  repeat' (first | apply And.intro | intro)
  all_goals (try first | omega | contradiction | exact Or.inl trivial | exact Or.inr trivial)
  have hhm : m_hm s c = -1 := by unfold m_hm; rw [if_pos hc.2]
  have kb := m_kf_b w (st := s 1) (g := c) (by omega)
  have e126 : I2 126 = I 126 := w_frA fr2 (fun _ => rfl)
  have n2 : I2 104 36 = n := by rw [fr2 104 36 rfl]; exact hn
  have q2 : q_ok I2 n (m_S s (-1)) (m_kf s (s 1)) (m_hm s) (m_ga s) (m_gs s) (m_gl s) := by
    unfold q_ok
    rw [e126, w_frA (a := 127) fr2 (fun _ => rfl), w_frA (a := 128) fr2 (fun _ => rfl), w_frA (a := 129) fr2 (fun _ => rfl), w_frA (a := 130) fr2 (fun _ => rfl), w_frA (a := 131) fr2 (fun _ => rfl)]
    exact q
  have sq := s237q (f := c) (xs := xs) (xl := xl) (J := J) (b := b) (Q := fun v Ic Jc bc => w_T xs xl 239 34 [some (.ref 104), some (w_i c)] [] (w_pv v []) Ic Jc bc Q) n2 (by omega) q2 (fun g hg => by
    have kg := m_kf_b w (st := s 1) (g := g) (by omega)
    rcases hg with hg | hg
    · have wg := w.2.2.2.1 g hg.1.1 hg.1.2.1
      have hg2 := hg.2
      have hgm : m_hm s g = s (460 + 3 * g + 1) := by unfold m_hm; rw [if_neg (by omega)]
      rw [hgm, hhm]
      exact ⟨by omega, by omega, by omega⟩
    · exact absurd rfl hg.2) (by rw [hhm]; omega) (fun I3 fr3 n3 q3 => ?_)
  · rw [hhm] at sq
    exact sq
  · refine b239_34 ?_
    have q4 : q_ok I3 (n + 1) (m_S s c) (m_kf s (s 1)) (m_hm s) (m_ga s) (m_gs s) (m_gl s) := by
      refine ⟨r_ext q3.1 (fun _ _ _ => rfl) (fun g => ?_), q3.2⟩
      unfold m_S
      constructor
      · intro x
        rcases x with x | x
        · rcases x with x | x
          · exact Or.inl x
          · exact absurd rfl x.2
        · exact Or.inr ⟨x, by omega⟩
      · intro x
        rcases x with x | x
        · exact Or.inl (Or.inl x)
        · exact Or.inr x.1
    have ru := r_uniq (q_m_rk (s := s) (kf := m_kf s (s 1)) ▸ q4.1) hr (m_S_inj wf (Or.inr hc.2) (fun g _ => by have := m_kf_b w (st := s 1) (g := g) (by omega); omega))
    obtain ⟨ru1, ru2⟩ := ru
    rw [ru1] at n3 q4 ru2
    exact k I3 (w_frt (p216_R fr2) (p237_R fr3)) n3 q4 ru2
/-- the row holds no more than there are houses -/
theorem m_row_b (wf : m_wf s) {n : Int} {r : Int → Int} {rk : Int → Int} (hr : r_ok n r (m_S s (-1)) rk) : n ≤ s 0 := by
  have w0 := wf.1.1
  have h0 := hr.1
  have liv : ∀ i, 0 ≤ i → i < n → m_isF s (r i) ∧ 0 ≤ s (460 + 3 * r i + 1) := fun i x y => by
    rcases hr.2.1 i x y with z | z
    · exact z
    · exact absurd rfl z.2
  have := m_pig (n := n.toNat) (H := (s 0).toNat) (g := fun i => s (460 + 3 * r i + 1)) (fun i hi => by
    have l := liv i (by omega) (by omega)
    have := wf.1.2.2.2.1 _ l.1.1 l.1.2.1
    try dsimp only
    omega) (fun i j hij hj e => by
    have l1 := liv i (by omega) (by omega)
    have l2 := liv j (by omega) (by omega)
    have := wf.2.2.2 _ _ l1.1 l2.1 l1.2 e
    have := hr.2.2.2 i j (by omega) (by omega) (by omega)
    rw [wf.2.2.2 _ _ l1.1 l2.1 l1.2 e] at this
    omega)
  omega
theorem s240 {i n : Int} {r : Int → Int} (hs : I 110 = s) (wf : m_wf s) (hi : w_in i) (hr : r_ok n r (m_S s (-1)) (m_rk s (m_kf s (s 1))))
    (k : ∀ I', w_fr pR I I' → Q (some (w_i (if 0 ≤ i ∧ i < n then r i else -1))) I' J b) : w_C xs xl 240 [.ref 104, w_i i] I J b Q := by
  have w0 := wf.1.1
  have nb := m_row_b wf hr
  have n0 := hr.1
  refine e240 (b240_0 ?_)
  rw [hs]
  refine s238 hs wf (by omega) hr (fun I1 fr1 n1 q1 r1 => ?_)
  have k := k I1 fr1
  by_cases c : 0 ≤ i ∧ i < n
  · rw [if_pos c, ← r1 i c.1 c.2] at k
    refine b240_11 ?_
    try simp only [w_Ug, reduceIte, Nat.reduceEqDiff, Int.reduceEq, eq_self, n1]
    repeat' (first | apply And.intro | intro)
    all_goals (try first | omega | contradiction | exact Or.inl trivial | exact Or.inr trivial)
  · rw [if_neg c] at k
    refine b240_11 ?_
    try simp only [w_Ug, reduceIte, Nat.reduceEqDiff, Int.reduceEq, eq_self, n1]
    repeat' (first | apply And.intro | intro)
    all_goals (try first | omega | contradiction | exact Or.inl trivial | exact Or.inr trivial)
def pZ (a : Nat) (k : Int) : Bool := pA a k || p24 a k
theorem pA_Z {I I' : w_I} (h : w_fr pA I I') : w_fr pZ I I' := w_frm h (fun a k e => by
  unfold pZ at e
  cases h : pA a k
  · rfl
  · rw [h, Bool.true_or] at e; cases e)
theorem p24_Z {I I' : w_I} (h : w_fr p24 I I') : w_fr pZ I I' := w_frm h (fun a k e => by
  unfold pZ at e
  cases h : p24 a k
  · rfl
  · rw [h, Bool.or_true] at e; cases e)
theorem c134 {i : Int} (rf : c_rf 20 I s) (rt : c_rt I s) (wf : m_wf s) (hi : w_in i)
    (k : ∀ n r, r_ok n r (m_S s (-1)) (m_rk s (m_kf s (s 1))) → ∀ I', w_fr pZ I I' → Q (some (w_i (if 0 ≤ i ∧ i < n then r i else -1))) I' J b) : w_C xs xl 134 [.ref 0, w_i i] I J b Q := by
  have w := wf.1
  have w0 := w.1
  refine e134 (b134_0 ?_)
  refine c21 rf rt wf (fun I1 h1 ag => b134_7 ?_)
  have fr1 := pA_fr h1
  refine c23 (c := -1) (kf := m_kf s (s 1)) (pA_rf fr1 rf) (pA_rt fr1 rt) wf (fun g x y => ?_) (Or.inl rfl) (fun n I2 fr2 n2 nb r2 => ?_)
  · refine ⟨(ag g x y).2, ?_⟩
    have := m_kf_b w (st := s 1) (g := g) (by omega)
    omega
  · have nb2 := m_row_b wf r2
    have n0 := r2.1
    have k := k n _ r2 I2 (w_frt (pA_Z fr1) (p24_Z fr2))
    by_cases c : 0 ≤ i ∧ i < n
    · rw [if_pos c] at k
      refine b134_15 ?_
      try simp only [w_Ug, reduceIte, Nat.reduceEqDiff, Int.reduceEq, eq_self, n2]
      repeat' (first | apply And.intro | intro)
      all_goals (try first | omega | contradiction | exact Or.inl trivial | exact Or.inr trivial)
    · rw [if_neg c] at k
      refine b134_15 ?_
      try simp only [w_Ug, reduceIte, Nat.reduceEqDiff, Int.reduceEq, eq_self, n2]
      repeat' (first | apply And.intro | intro)
      all_goals (try first | omega | contradiction | exact Or.inl trivial | exact Or.inr trivial)
end
