section
/-! sums over sums; calls: house, count -/
variable {xs : Nat → Int32} {xl : Nat} {I J : w_I} {b : Bool} {Q : Option Value → w_I → w_I → Bool → Prop}
variable {s : Int → Int}
theorem m_sum_add {P R : Int → Int} : ∀ n : Nat, m_sum (fun i => P i + R i) n = m_sum P n + m_sum R n
  | 0 => rfl
  | n + 1 => by
    have := m_sum_add (P := P) (R := R) n
    rw [m_sum_s, m_sum_s, m_sum_s]
    omega
theorem m_sum_nil {P : Int → Int} : ∀ n : Nat, (∀ i : Nat, i < n → P i = 0) → m_sum P n = 0
  | 0, _ => rfl
  | n + 1, h => by
    have := m_sum_nil (P := P) n (fun i hi => h i (by omega))
    have := h n (by omega)
    rw [m_sum_s]
    omega
theorem m_sum_sw {P : Int → Int → Int} : ∀ m n : Nat, m_sum (fun i => m_sum (P i) n) m = m_sum (fun j => m_sum (fun i => P i j) m) n
  | 0, n => (m_sum_nil n (fun _ _ => rfl)).symm
  | m + 1, n => by
    rw [m_sum_s, m_sum_sw m n, ← m_sum_add]
    rfl
theorem m_sum_one {P : Int → Int} {j : Nat} : ∀ n : Nat, j < n → (∀ i : Nat, i < n → i ≠ j → P i = 0) → m_sum P n = P j
  | 0, h, _ => by omega
  | n + 1, h, g => by
    rw [m_sum_s]
    by_cases e : j = n
    · subst e
      rw [m_sum_nil j (fun i hi => g i (by omega) (by omega))]
      omega
    · have := m_sum_one n (by omega) (fun i hi hne => g i (by omega) hne)
      have := g n (by omega) (fun x => e x.symm)
      omega
/-- who lives in a house -/
def m_dwf (s : Int → Int) (h : Int) : Nat → Int
  | 0 => -2
  | n + 1 => if m_isF s n ∧ s (460 + 3 * n + 1) = h then n else m_dwf s h n
def m_dw (s : Int → Int) (h : Int) : Int := m_dwf s h (s 8).toNat
theorem m_dwf_f (wf : m_wf s) {f h : Int} (hf : m_isF s f) (e : s (460 + 3 * f + 1) = h) (h0 : 0 ≤ h) : ∀ n : Nat, f < n → m_dwf s h n = f
  | 0, x => by have := hf.1; omega
  | n + 1, x => by
    unfold m_dwf
    by_cases c : m_isF s n ∧ s (460 + 3 * n + 1) = h
    · rw [if_pos c]
      exact wf.2.2.2 n f c.1 hf (by omega) (by omega)
    · rw [if_neg c]
      by_cases y : f = n
      · subst y; exact absurd ⟨hf, e⟩ c
      · exact m_dwf_f wf hf e h0 n (by omega)
theorem m_dw_f (wf : m_wf s) {f h : Int} (hf : m_isF s f) (e : s (460 + 3 * f + 1) = h) (h0 : 0 ≤ h) : m_dw s h = f :=
  m_dwf_f wf hf e h0 _ (by have := hf.2.1; omega)
theorem m_dw_e {h : Int} (he : m_emp s h) : m_dw s h = -2 := by
  unfold m_dw
  generalize (s 8).toNat = n
  induction n with
  | zero => rfl
  | succ n ih =>
    unfold m_dwf
    rw [if_neg (fun x => he _ x.1 x.2)]
    exact ih
def m_house (s : Int → Int) (h a : Int) : Int := if 0 ≤ h ∧ h < s 0 then (if a = 0 then s (20 + h) else if a = 1 then s (50 + h) else if a = 2 then m_dw s h else -1) else -1
theorem s219 {h a : Int} (hs : I 110 = s) (wf : m_wf s) (hh : w_in h) (ha : w_in a) (k : Q (some (w_i (m_house s h a))) I J b) : w_C xs xl 219 [.ref 104, w_i h, w_i a] I J b Q := by
  have w := wf.1
  have w0 := w.1
  unfold m_house at k
  refine e219 (b219_0 ?_)
  refine s212 hs w hh (fun h1 => ?_) (fun h1 => ?_)
  · rw [if_pos h1] at k
    have w1 := w.2.1 h h1.1 h1.2
    refine b219_5 ?_
    try simp only [w_Ug, reduceIte, Nat.reduceEqDiff, Int.reduceEq, eq_self, hs]
    repeat' (first | apply And.intro | intro)
    all_goals (try first | omega | contradiction | exact Or.inl trivial | exact Or.inr trivial)
    · rename_i c0 c1 c2
      rw [if_neg c0, if_neg c1, if_neg c2] at k; exact k
    · rename_i c0 c1 c2
      rw [if_neg c0, if_neg c1, if_pos c2] at k
      refine s214 hs w hh (fun f hf ef => ?_) (fun em => ?_)
      · rw [m_dw_f wf hf ef h1.1] at k
        exact b219_53 k
      · rw [m_dw_e em] at k
        exact b219_53 k
    · rename_i c0 c1
      rw [if_neg c0, if_pos c1] at k; exact k
    · rename_i c0
      rw [if_pos c0] at k; exact k
  · rw [if_neg h1] at k
    refine b219_5 ?_
    try simp only [w_Ug, reduceIte, Nat.reduceEqDiff, Int.reduceEq, eq_self, hs]
    repeat' (first | apply And.intro | intro)
    all_goals (try first | omega | contradiction | exact Or.inl trivial | exact Or.inr trivial)
theorem c123 {h a : Int} (rf : c_rf 20 I s) (rt : c_rt I s) (wf : m_wf s) (hh : w_in h) (ha : w_in a) (k : Q (some (w_i (m_house s h a))) I J b) : w_C xs xl 123 [.ref 0, w_i h, w_i a] I J b Q := by
  have w := wf.1
  have w0 := w.1
  unfold m_house at k
  refine e123 (b123_0 ?_)
  refine c156 rt w hh (fun h1 => ?_) (fun h1 => ?_)
  · rw [if_pos h1] at k
    have w1 := w.2.1 h h1.1 h1.2
    obtain ⟨t3, t4⟩ := rt.2.2.2.2.2 h h1.1 h1.2
    refine b123_5 ?_
    try simp only [w_Ug, reduceIte, Nat.reduceEqDiff, Int.reduceEq, eq_self, t3, t4]
    repeat' (first | apply And.intro | intro)
    all_goals (try first | omega | contradiction | exact Or.inl trivial | exact Or.inr trivial)
    · rename_i c0
      rw [if_pos c0] at k; exact k
    · rename_i c0 c1
      rw [if_neg c0, if_pos c1] at k; exact k
    · rename_i c0 c1 c2
      rw [if_neg c0, if_neg c1, if_pos c2] at k
      have rf' := rf
      simp only [c_rf, Nat.reduceAdd] at rf'
      obtain ⟨-, -, -, -, -, -, rh, -⟩ := rf'
      have rh := rh h (by omega) (by omega)
      by_cases x : I 30 h = -1
      · rw [m_dw_e (rh.1 x)] at k
        refine c162 (by omega) (fun v x1 x2 => b123_68 ?_)
        rw [x1 x]; exact k
      · obtain ⟨q1, q2⟩ := rh.2 x
        rw [m_dw_f wf q1 q2 h1.1] at k
        have := q1.1
        have := q1.2.1
        refine c162 (by omega) (fun v x1 x2 => b123_68 ?_)
        rw [x2 x]; exact k
    · rename_i c0 c1 c2
      rw [if_neg c0, if_neg c1, if_neg c2] at k; exact k
  · rw [if_neg h1] at k
    refine b123_5 ?_
    try simp only [w_Ug, reduceIte, Nat.reduceEqDiff, Int.reduceEq, eq_self, hs]
    repeat' (first | apply And.intro | intro)
    all_goals (try first | omega | contradiction | exact Or.inl trivial | exact Or.inr trivial)
def m_np (s : Int → Int) : Int := m_sum (fun p => if s (100 + 6 * p) = 1 then 1 else 0) (s 7).toNat
def m_nf (s : Int → Int) : Int := m_sum (fun f => if s (460 + 3 * f) = 1 then 1 else 0) (s 8).toNat
def m_nl (s : Int → Int) : Int := m_sum (fun f => if s (460 + 3 * f) = 1 ∧ 0 ≤ s (460 + 3 * f + 1) then 1 else 0) (s 8).toNat
theorem m_np_e (w : m_w0 s) : m_sum (fun f => m_sz s f (-1)) (s 8).toNat = m_np s := by
  have w0 := w.1
  unfold m_sz m_np
  rw [m_sum_sw]
  refine m_sum_c _ (fun i hi => ?_)
  have wp := w.2.2.1 i (by omega) (by omega)
  try dsimp only
  by_cases c : s (100 + 6 * (i : Int)) = 1
  · rw [if_pos c]
    rw [m_sum_one (j := (s (100 + 6 * (i : Int) + 5)).toNat) (s 8).toNat (by omega) (fun j hj hne => if_neg (fun x => by
      have := x.2
      omega))]
    rw [show (((s (100 + 6 * (i : Int) + 5)).toNat : Nat) : Int) = s (100 + 6 * (i : Int) + 5) by omega]
    exact if_pos ⟨c, Or.inl rfl⟩
  · rw [if_neg c]
    exact m_sum_nil _ (fun j hj => if_neg (fun x => c x.1))
theorem m_nl_e {I : w_I} (rf : c_rf 20 I s) (wf : m_wf s) : m_sum (fun h => if I 30 h = -1 then 0 else 1) 24 = m_nl s := by
  have w := wf.1
  have w0 := w.1
  simp only [c_rf, Nat.reduceAdd] at rf
  obtain ⟨-, -, -, -, -, -, rh, -⟩ := rf
  have e1 : m_sum (fun h => if I 30 h = -1 then 0 else 1) 24 = m_sum (fun h => m_sum (fun f => if m_isF s f ∧ s (460 + 3 * f + 1) = h then 1 else 0) (s 8).toNat) 24 := by
    refine m_sum_c _ (fun h hh => ?_)
    have rh := rh h (by omega) (by omega)
    try dsimp only
    by_cases c : I 30 (h : Int) = -1
    · rw [if_pos c, m_sum_nil _ (fun f hf => if_neg (fun x => rh.1 c f x.1 x.2))]
    · obtain ⟨q1, q2⟩ := rh.2 c
      have q11 := q1.1
      have q12 := q1.2.1
      have ej : (((I 30 (h : Int)).toNat : Nat) : Int) = I 30 h := by omega
      rw [if_neg c, m_sum_one (j := (I 30 (h : Int)).toNat) (s 8).toNat (by omega) (fun f hf hne => if_neg (fun x => by
        have := wf.2.2.2 f (I 30 h) x.1 q1 (by omega) (by omega)
        omega))]
      rw [ej]
      exact (if_pos ⟨q1, q2⟩).symm
  rw [e1, m_sum_sw]
  refine m_sum_c _ (fun f hf => ?_)
  have w3 := w.2.2.2.1 f (by omega) (by omega)
  try dsimp only
  by_cases c : s (460 + 3 * (f : Int)) = 1 ∧ 0 ≤ s (460 + 3 * (f : Int) + 1)
  · rw [if_pos c]
    rw [m_sum_one (j := (s (460 + 3 * (f : Int) + 1)).toNat) 24 (by omega) (fun h hh hne => if_neg (fun x => by
      have := x.2
      omega))]
    exact if_pos ⟨⟨by omega, by omega, c.1⟩, by omega⟩
  · rw [if_neg c]
    exact m_sum_nil _ (fun h hh => if_neg (fun x => c ⟨x.1.2.2, by have := x.2; omega⟩))
def m_count (s : Int → Int) (tp hl a : Int) : Int := if a = 0 then s 0 else if a = 1 then m_np s else if a = 2 then m_nf s else if a = 3 then m_nl s else if a = 4 then s 9 else if a = 5 then s 10 else if a = 6 then tp else if a = 7 then hl else if a = 8 then s 1 else if a = 9 then s 2 else if a = 10 then s 4 else if a = 11 then s 3 else if a = 12 then s 7 else if a = 13 then s 8 else -1
theorem s274 {f : Int} (hs : I 110 = s) (w : m_w0 s) (hf : w_in f) (k1 : m_isF s f ∧ 0 ≤ s (460 + 3 * f + 1) → Q (some (w_i 1)) I J b) (k0 : ¬ (m_isF s f ∧ 0 ≤ s (460 + 3 * f + 1)) → Q (some (w_i 0)) I J b) : w_C xs xl 274 [.ref 104, w_i f] I J b Q := by
  have w0 := w.1
  refine e274 (b274_0 ?_)
  refine s211 hs w hf (fun h => ?_) (fun h => ?_)
  · have h1 := h.1
    have h2 := h.2.1
    have w3 := w.2.2.2.1 f h1 h2
    refine b274_5 ?_
    try simp only [w_Ug, reduceIte, Nat.reduceEqDiff, Int.reduceEq, eq_self, hs]
    repeat' (first | apply And.intro | intro)
    all_goals (try first | omega | contradiction | exact Or.inl trivial | exact Or.inr trivial)
    refine s213 hs (by omega) ?_
    refine b274_13 ?_
    try simp only [w_Ug, reduceIte, Nat.reduceEqDiff, Int.reduceEq, eq_self, hs]
    repeat' (first | apply And.intro | intro)
    all_goals (try first | omega | contradiction | exact Or.inl trivial | exact Or.inr trivial)
    · rename_i c; exact k0 (fun x => by have := x.2; omega)
    · rename_i c; exact k1 ⟨h, by omega⟩
  · have kk := k0 (fun x => h x.1)
    refine b274_5 ?_
    try simp only [w_Ug, reduceIte, Nat.reduceEqDiff, Int.reduceEq, eq_self, hs]
    repeat' (first | apply And.intro | intro)
    all_goals (try first | omega | contradiction | exact Or.inl trivial | exact Or.inr trivial)
end
