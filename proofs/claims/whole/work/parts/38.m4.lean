section
/-! calls: family, months, house -/
variable {xs : Nat → Int32} {xl : Nat} {I J : w_I} {b : Bool} {Q : Option Value → w_I → w_I → Bool → Prop}
variable {s : Int → Int}
def m_key (s : Int → Int) (f : Int) : Int := m_ag s f (-1) 0 (s 3) / s 1
theorem m_key_b (w : m_w0 s) {f : Int} : 0 ≤ m_key s f ∧ m_key s f ≤ 199 := by
  have w0 := w.1
  have h := m_ag_b (f := f) (g := -1) (t := 0) (by' := s 3) w
  unfold m_key
  refine ⟨Int.ediv_nonneg h.1 (by omega), ?_⟩
  have : m_ag s f (-1) 0 (s 3) / s 1 ≤ m_ag s f (-1) 0 (s 3) := Int.ediv_le_self _ h.1
  omega
def m_family (s : Int → Int) (f a : Int) : Int := if m_isF s f then (if a = 0 then m_sz s f (-1) else if a = 1 then m_ag s f (-1) 0 (s 3) else if a = 2 then m_key s f else if a = 3 then s (460 + 3 * f + 1) else if a = 4 then s (460 + 3 * f + 2) else if a = 5 then m_lm s f (-1) else -1) else -1
theorem s227 {f a : Int} (hs : I 110 = s) (wf : m_wf s) (hf : w_in f) (ha : w_in a) (k : ∀ I', w_fr p216 I I' → Q (some (w_i (m_family s f a))) I' J b) : w_C xs xl 227 [.ref 104, w_i f, w_i a] I J b Q := by
  have w := wf.1
  have w0 := w.1
  refine e227 (b227_0 ?_)
  unfold m_family at k
  refine s211 hs w hf (fun h => ?_) (fun h => ?_)
  · rw [if_pos h] at k
    have h1 := h.1
    have h2 := h.2.1
    refine b227_5 ?_
    try simp only [w_Ug, reduceIte, Nat.reduceEqDiff, Int.reduceEq, eq_self, hs]
    repeat' (first | apply And.intro | intro)
    all_goals (try first | omega | contradiction)
    refine s217 hs w hf (fun I' hfr e1 e2 e3 => ?_)
    have hs1 : I' 110 = s := (w_frA hfr (fun _ => rfl)).trans hs
    have k := k I' hfr
    have hb := m_ag_b (f := f) (g := -1) (t := 0) (by' := s 3) w
    refine b227_15 ?_
    try simp only [w_Ug, reduceIte, Nat.reduceEqDiff, Int.reduceEq, eq_self, hs1, e1, e2, e3]
    repeat' (first | apply And.intro | intro)
    all_goals (try first | omega | contradiction)
    · rename_i c; rw [if_pos c] at k; exact k
    · rename_i c1 c; rw [if_neg c1, if_pos c] at k; exact k
    · rename_i c2 c1 c; rw [if_neg c2, if_neg c1, if_pos c] at k; exact k
    · rename_i c3 c2 c1 c
      rw [if_neg c3, if_neg c2, if_neg c1, if_pos c] at k
      exact s213 hs1 (by omega) (b227_83 k)
    · rename_i c4 c3 c2 c1 c; rw [if_neg c4, if_neg c3, if_neg c2, if_neg c1, if_pos c] at k; exact k
    · rename_i c5 c4 c3 c2 c1 c; rw [if_neg c5, if_neg c4, if_neg c3, if_neg c2, if_neg c1, if_pos c] at k; exact k
    · rename_i c5 c4 c3 c2 c1 c; rw [if_neg c5, if_neg c4, if_neg c3, if_neg c2, if_neg c1, if_neg c] at k; exact k
  · rw [if_neg h] at k
    have k := k I w_frr
    refine b227_5 ?_
    try simp only [w_Ug, reduceIte, Nat.reduceEqDiff, Int.reduceEq, eq_self, hs]
    repeat' (first | apply And.intro | intro)
    all_goals (try first | omega | contradiction)
theorem c162 {n : Int} (hn : w_in n) (k : ∀ v, (n = -1 → v = -2) → (n ≠ -1 → v = n) → Q (some (w_i v)) I J b) : w_C xs xl 162 [w_i n] I J b Q := by
  refine e162 ?_
  refine b162_0 ?_
  try simp only [w_Ug, reduceIte, Nat.reduceEqDiff, Int.reduceEq, eq_self, if_true]
  repeat' (first | apply And.intro | intro)
  all_goals (try first | omega | contradiction)
  · rename_i c; exact k _ (fun x => absurd x c) (fun _ => rfl)
  · rename_i c; exact k _ (fun _ => rfl) (fun x => absurd c x)
def pA (a : Nat) (_ : Int) : Bool := a == 82 || a == 83
theorem pA_fr {I I' : w_I} (h : ∀ a, a ≠ 82 → a ≠ 83 → I' a = I a) : w_fr pA I I' := fun a k e => by
  have : a ≠ 82 ∧ a ≠ 83 := by
    unfold pA at e
    simp only [Bool.or_eq_false_iff, beq_eq_false_iff_ne] at e
    exact e
  rw [h a this.1 this.2]
theorem c_rf_fr {I I' : w_I} {o : Nat} (h : ∀ a, o ≤ a → a ≤ o + 13 → I' a = I a) (rf : c_rf o I s) : c_rf o I' s := by
  simp only [c_rf] at rf ⊢
  rw [h o (by omega) (by omega), h (o + 1) (by omega) (by omega), h (o + 2) (by omega) (by omega), h (o + 3) (by omega) (by omega), h (o + 4) (by omega) (by omega), h (o + 5) (by omega) (by omega), h (o + 6) (by omega) (by omega), h (o + 7) (by omega) (by omega), h (o + 8) (by omega) (by omega), h (o + 9) (by omega) (by omega), h (o + 10) (by omega) (by omega), h (o + 11) (by omega) (by omega), h (o + 12) (by omega) (by omega), h (o + 13) (by omega) (by omega)]
  exact rf
theorem c128 {f a : Int} (rf : c_rf 20 I s) (rt : c_rt I s) (wf : m_wf s) (hf : w_in f) (ha : w_in a) (k : ∀ I', w_fr pA I I' → Q (some (w_i (m_family s f a))) I' J b) : w_C xs xl 128 [.ref 0, w_i f, w_i a] I J b Q := by
  have w := wf.1
  have w0 := w.1
  refine e128 (b128_0 ?_)
  unfold m_family at k
  refine c6 rf wf hf (fun h => ?_) (fun h => ?_)
  · rw [if_pos h] at k
    have h1 := h.1
    have h2 := h.2.1
    have h3 := h.2.2
    have w3 := w.2.2.2.1 f h1 h2
    refine b128_8 ?_
    try simp only [w_Ug, reduceIte, Nat.reduceEqDiff, Int.reduceEq, eq_self, if_true]
    repeat' (first | apply And.intro | intro)
    all_goals (try first | omega | contradiction)
    refine c21 rf rt wf (fun I' hfr e => ?_)
    have k := k I' (pA_fr hfr)
    have rf1 : c_rf 20 I' s := c_rf_fr (fun a x y => hfr a (by omega) (by omega)) rf
    have e := e f h1 h2
    simp only [c_rf, Nat.reduceAdd] at rf1
    obtain ⟨e13', e14', e15', e16', rp, rff, -⟩ := rf1
    have rff := rff f h1 h2
    have t0 := rff.1
    have t1 := rff.2.1
    refine b128_20 ?_
    try simp only [w_Ug, reduceIte, Nat.reduceEqDiff, Int.reduceEq, eq_self, e.1, e.2, t0, t1]
    repeat' (first | apply And.intro | intro)
    all_goals (try first | omega | contradiction)
    · rename_i c; rw [if_pos c] at k; exact k
    · rename_i c1 c; rw [if_neg c1, if_pos c] at k; exact k
    · rename_i c2 c1 c; rw [if_neg c2, if_neg c1, if_pos c] at k; exact k
    · rename_i c3 c2 c1 c
      rw [if_neg c3, if_neg c2, if_neg c1, if_pos c] at k
      refine c162 (by omega) (fun v x y => b128_102 ?_)
      have : v = s (460 + 3 * f + 1) := by omega
      rw [this]; exact k
    · rename_i c4 c3 c2 c1 c
      rw [if_neg c4, if_neg c3, if_neg c2, if_neg c1, if_pos c] at k
      refine c162 (by omega) (fun v x y => b128_115 ?_)
      have : v = s (460 + 3 * f + 2) := by omega
      rw [this]; exact k
    · rename_i c5 c4 c3 c2 c1 c; rw [if_neg c5, if_neg c4, if_neg c3, if_neg c2, if_neg c1, if_pos c] at k; exact k
    · rename_i c5 c4 c3 c2 c1 c; rw [if_neg c5, if_neg c4, if_neg c3, if_neg c2, if_neg c1, if_neg c] at k; exact k
  · rw [if_neg h] at k
    have k := k I w_frr
    refine b128_8 ?_
    try simp only [w_Ug, reduceIte, Nat.reduceEqDiff, Int.reduceEq, eq_self, if_true]
    repeat' (first | apply And.intro | intro)
    all_goals (try first | omega | contradiction)
theorem s230 {n : Int} (hs : I 110 = s) (w : m_w0 s) (hn : w_in n) (k1 : 0 ≤ n ∧ n ≤ 240 ∧ s 9 + n ≤ 1200 → ∀ I', w_fr p110 I I' → I' 110 = u1 s 9 (s 9 + n) → Q (some (w_i (s 9 + n))) I' J b) (k0 : ¬ (0 ≤ n ∧ n ≤ 240 ∧ s 9 + n ≤ 1200) → Q (some (w_i (-1))) I J b) : w_C xs xl 230 [.ref 104, w_i n] I J b Q := by
  have w0 := w.1
  refine e230 (b230_0 ?_)
  refine s209 hn (by decide) (by decide) (fun h => ?_) (fun h => ?_)
  · refine b230_8 ?_
    try simp only [w_Ug, reduceIte, Nat.reduceEqDiff, Int.reduceEq, eq_self, hs]
    repeat' (first | apply And.intro | intro)
    all_goals (try first | omega | contradiction)
    · rename_i c
      exact k1 (by omega) _ (w_frU w_frr rfl) (by rw [w_U1, hs])
    · exact k0 (by omega)
  · have := k0 (by omega)
    refine b230_8 ?_
    try simp only [w_Ug, reduceIte, Nat.reduceEqDiff, Int.reduceEq, eq_self, hs]
    repeat' (first | apply And.intro | intro)
    all_goals (try first | omega | contradiction)
theorem m_wf_mon {n : Int} (wf : m_wf s) (hn : s 9 ≤ n ∧ n ≤ 1200) : m_wf (u1 s 9 n) := by
  obtain ⟨w0, w1, w2, w3, w4⟩ := wf.1
  have r : ∀ k, k ≠ 9 → u1 s 9 n k = s k := fun k hk => by rw [u1g, if_neg hk]
  have r9 : u1 s 9 n 9 = n := by rw [u1g, if_pos rfl]
  have dz : ∀ g, m_sz (u1 s 9 n) g (-1) = m_sz s g (-1) := fun g => m_szc (s := s) (by rw [u1g, if_neg (by omega)]) (fun i h0 h1 => by simp (disch := omega) only [u1g, if_neg]; exact ⟨trivial, trivial⟩) g (-1)
  generalize u1 s 9 n = D at r r9 dz ⊢
  have ii : ∀ g, m_isF D g → m_isF s g := by
    intro g hg
    have h1 := hg.1
    have h2 := hg.2.1
    have h3 := hg.2.2
    rw [r _ (by omega)] at h2
    rw [r _ (by omega)] at h3
    exact ⟨h1, h2, h3⟩
  refine ⟨⟨?_, ?_, ?_, ?_, ?_⟩, ?_, ?_, ?_⟩
  · rw [r 0 (by omega), r 1 (by omega), r 2 (by omega), r 3 (by omega), r 4 (by omega), r 7 (by omega), r 8 (by omega), r9, r 10 (by omega)]
    omega
  · intro k h0 h1
    rw [r 0 (by omega)] at h1
    rw [r _ (by omega), r _ (by omega)]
    exact w1 k h0 h1
  · intro k h0 h1
    rw [r 7 (by omega)] at h1
    rw [r (100 + 6 * k) (by omega), r (100 + 6 * k + 1) (by omega), r (100 + 6 * k + 2) (by omega), r (100 + 6 * k + 3) (by omega), r (100 + 6 * k + 4) (by omega), r (100 + 6 * k + 5) (by omega), r 8 (by omega), r9]
    have := w2 k h0 h1
    omega
  · intro k h0 h1
    rw [r 8 (by omega)] at h1
    rw [r (460 + 3 * k) (by omega), r (460 + 3 * k + 1) (by omega), r (460 + 3 * k + 2) (by omega), r 0 (by omega)]
    exact w3 k h0 h1
  · intro k h0 h1
    rw [r 10 (by omega)] at h1
    rw [r (550 + 3 * k) (by omega), r (550 + 3 * k + 1) (by omega), r (550 + 3 * k + 2) (by omega), r 8 (by omega), r 0 (by omega)]
    exact w4 k h0 h1
  · intro p hp
    have h1 := hp.1
    have h2 := hp.2.1
    have h3 := hp.2.2
    rw [r _ (by omega)] at h2
    rw [r _ (by omega)] at h3
    have wp := w2 p h1 h2
    rw [r (100 + 6 * p + 5) (by omega), r _ (by omega)]
    exact wf.2.1 p ⟨h1, h2, h3⟩
  · intro g hg
    rw [dz]
    exact wf.2.2.1 g (ii g hg)
  · intro g g' hg hg' e1 e2
    have a1 := hg.1
    have a2 := hg'.1
    rw [r _ (by omega)] at e1
    rw [r _ (by omega), r _ (by omega)] at e2
    exact wf.2.2.2 g g' (ii g hg) (ii g' hg') e1 e2
theorem c_rf_mon {n : Int} (rf : c_rf 20 I s) (w : m_w0 s) : c_rf 20 (w_U I 20 15 n) (u1 s 9 n) := by
  have w0 := w.1
  have r : ∀ k, k ≠ 9 → u1 s 9 n k = s k := fun k hk => by rw [u1g, if_neg hk]
  have r9 : u1 s 9 n 9 = n := by rw [u1g, if_pos rfl]
  have dz : ∀ g, m_sz (u1 s 9 n) g (-1) = m_sz s g (-1) := fun g => m_szc (s := s) (by rw [u1g, if_neg (by omega)]) (fun i h0 h1 => by simp (disch := omega) only [u1g, if_neg]; exact ⟨trivial, trivial⟩) g (-1)
  have dl : ∀ g, m_lm (u1 s 9 n) g (-1) = m_lm s g (-1) := fun g => m_lmc (s := s) (by rw [u1g, if_neg (by omega)]) (fun i h0 h1 => by simp (disch := omega) only [u1g, if_neg]; exact ⟨trivial, trivial, trivial⟩) g (-1)
  generalize u1 s 9 n = D at r r9 dz dl ⊢
  simp only [c_rf, Nat.reduceAdd] at rf
  obtain ⟨e13, e14, e15, e16, rp, rff, rh, rm⟩ := rf
  simp only [c_rf, Nat.reduceAdd, w_Ug, reduceIte, Nat.reduceEqDiff, Int.reduceEq]
  rw [r 7 (by omega), r 8 (by omega), r9, r 10 (by omega)]
  refine ⟨e13, e14, rfl, e16, ?_, ?_, ?_, ?_⟩
  · intro q h0 h1
    rw [r (100 + 6 * q) (by omega), r (100 + 6 * q + 1) (by omega), r (100 + 6 * q + 2) (by omega), r (100 + 6 * q + 3) (by omega), r (100 + 6 * q + 4) (by omega), r (100 + 6 * q + 5) (by omega)]
    exact rp q h0 h1
  · intro g h0 h1
    rw [dz, dl, r (460 + 3 * g) (by omega), r (460 + 3 * g + 1) (by omega), r (460 + 3 * g + 2) (by omega)]
    exact rff g h0 h1
  · intro h' h0 h1
    have rh' := rh h' h0 h1
    refine ⟨fun x g hg => ?_, fun x => ?_⟩
    · have g1 := hg.1
      have g2 := hg.2.1
      have g3 := hg.2.2
      rw [r _ (by omega)] at g2
      rw [r _ (by omega)] at g3
      rw [r _ (by omega)]
      exact rh'.1 x g ⟨g1, g2, g3⟩
    · obtain ⟨q1, q2⟩ := rh'.2 x
      have a1 := q1.1
      refine ⟨⟨q1.1, by rw [r _ (by omega)]; exact q1.2.1, ?_⟩, ?_⟩
      · rw [r _ (by omega)]; exact q1.2.2
      · rw [r _ (by omega)]; exact q2
  · intro m h0 h1
    rw [r (550 + 3 * m) (by omega), r (550 + 3 * m + 1) (by omega), r (550 + 3 * m + 2) (by omega)]
    exact rm m h0 h1
theorem c131 {n : Int} (rf : c_rf 20 I s) (w : m_w0 s) (hn : w_in n) (k1 : 0 ≤ n ∧ n ≤ 240 ∧ s 9 + n ≤ 1200 → ∀ I', w_fr pF I I' → c_rf 20 I' (u1 s 9 (s 9 + n)) → Q (some (w_i (s 9 + n))) I' J b) (k0 : ¬ (0 ≤ n ∧ n ≤ 240 ∧ s 9 + n ≤ 1200) → Q (some (w_i (-1))) I J b) : w_C xs xl 131 [.ref 0, w_i n] I J b Q := by
  have w0 := w.1
  have e15' : I 20 15 = s 9 := by
    simp only [c_rf, Nat.reduceAdd] at rf
    exact rf.2.2.1
  refine e131 ?_
  refine b131_0 ?_
  try simp only [w_Ug, reduceIte, Nat.reduceEqDiff, Int.reduceEq, eq_self, e15']
  repeat' (first | apply And.intro | intro)
  all_goals (try first | omega | contradiction)
  · exact k0 (by omega)
  · exact k0 (by omega)
  · exact k1 (by omega) _ (w_frU w_frr rfl) (c_rf_mon rf w)
  · exact k0 (by omega)
end
