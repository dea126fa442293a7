section
/-! the class: its folk stand for the reference's state -/
variable {xs : Nat → Int32} {xl : Nat} {I J : w_I} {b : Bool} {Q : Option Value → w_I → w_I → Bool → Prop}
variable {s : Int → Int}
theorem m_die_r {p k : Int} (h1 : k ≠ 100 + 6 * p) (h2 : k ≠ 460 + 3 * s (100 + 6 * p + 5)) : m_die s p k = s k := by
  unfold m_die m_lv
  split
  · rw [u1g, if_neg h2, u1g, if_neg h1]
  · rw [u1g, if_neg h1]
theorem m_die_sz (wf : m_wf s) {p : Int} (hp : m_isP s p) (f : Int) : m_sz (m_die s p) f (-1) = m_sz s f (-1) - (if s (100 + 6 * p + 5) = f then 1 else 0) := by
  have w := wf.1
  have w0 := w.1
  have hp1 := hp.1
  have hp2 := hp.2.1
  have hp3 := hp.2.2
  have w2 := w.2.2.1 p hp1 hp2
  have e0 : m_die s p (100 + 6 * p) = 0 := by
    unfold m_die m_lv
    split
    · rw [u1g, if_neg (by omega), u1g, if_pos rfl]
    · rw [u1g, if_pos rfl]
  rw [m_szU (s := s) (p := p) ⟨hp1, hp2⟩ (m_die_r (by omega) (by omega)) (fun i h0 h1 hne => ⟨m_die_r (by omega) (by omega), m_die_r (by omega) (by omega)⟩)]
  rw [if_neg (show ¬ m_in (m_die s p) f (-1) p from fun h => by
    have := h.1
    omega)]
  have : m_in s f (-1) p ↔ s (100 + 6 * p + 5) = f := by
    simp only [m_in]
    omega
  simp only [this]
  omega
theorem m_die_lm (wf : m_wf s) {p : Int} (hp : m_isP s p) (f : Int) : m_lm (m_die s p) f (-1) = m_lm s f (-1) - (if s (100 + 6 * p + 5) = f then s (100 + 6 * p + 3) else 0) := by
  have w := wf.1
  have w0 := w.1
  have hp1 := hp.1
  have hp2 := hp.2.1
  have hp3 := hp.2.2
  have w2 := w.2.2.1 p hp1 hp2
  have e0 : m_die s p (100 + 6 * p) = 0 := by
    unfold m_die m_lv
    split
    · rw [u1g, if_neg (by omega), u1g, if_pos rfl]
    · rw [u1g, if_pos rfl]
  rw [m_lmU (s := s) (p := p) ⟨hp1, hp2⟩ (m_die_r (by omega) (by omega)) (fun i h0 h1 hne => ⟨m_die_r (by omega) (by omega), m_die_r (by omega) (by omega), m_die_r (by omega) (by omega)⟩)]
  rw [if_neg (show ¬ m_in (m_die s p) f (-1) p from fun h => by
    have := h.1
    omega)]
  have : m_in s f (-1) p ↔ s (100 + 6 * p + 5) = f := by
    simp only [m_in]
    omega
  simp only [this]
  omega
theorem m_die_p (wf : m_wf s) {p : Int} (hp : m_isP s p) : m_die s p (100 + 6 * p) = 0 := by
  have w0 := wf.1.1
  have hp1 := hp.1
  have hp2 := hp.2.1
  have w2 := wf.1.2.2.1 p hp1 hp2
  unfold m_die m_lv
  split
  · rw [u1g, if_neg (by omega), u1g, if_pos rfl]
  · rw [u1g, if_pos rfl]
theorem m_die_f (wf : m_wf s) {p : Int} (hp : m_isP s p) : (m_sz s (s (100 + 6 * p + 5)) (-1) = 1 → m_die s p (460 + 3 * s (100 + 6 * p + 5)) = 0) ∧ (m_sz s (s (100 + 6 * p + 5)) (-1) ≠ 1 → m_die s p (460 + 3 * s (100 + 6 * p + 5)) = 1) := by
  have w := wf.1
  have w0 := w.1
  have hp1 := hp.1
  have hp2 := hp.2.1
  have hp3 := hp.2.2
  have w2 := w.2.2.1 p hp1 hp2
  have e := m_die_sz wf hp (s (100 + 6 * p + 5))
  rw [if_pos rfl] at e
  have wd := m_wf_die wf hp
  have e8 : m_die s p 8 = s 8 := m_die_r (by omega) (by omega)
  have d := m_isF_sz wd (f := s (100 + 6 * p + 5)) (by rw [e8]; omega)
  have wdf := wd.1.2.2.2.1 (s (100 + 6 * p + 5)) (by omega) (by omega)
  have nn := m_sz_nn (m_die s p) (s (100 + 6 * p + 5)) (-1)
  constructor
  · intro h
    have : ¬ m_die s p (460 + 3 * s (100 + 6 * p + 5)) = 1 := fun hh => by
      have := d.mp hh
      omega
    omega
  · intro h
    have : 1 ≤ m_sz s (s (100 + 6 * p + 5)) (-1) := (wf.2.2.1 _ ⟨by omega, by omega, wf.2.1 p hp⟩).1
    exact d.mpr (by omega)
/-- the folk at o stand for the state s -/
def c_rf (o : Nat) (I : w_I) (s : Int → Int) : Prop :=
  I o 13 = s 7 ∧ I o 14 = s 8 ∧ I o 15 = s 9 ∧ I o 16 = s 10 ∧
  (∀ p, 0 ≤ p → p < s 7 → I (o + 1) p = s (100 + 6 * p + 4) ∧ I (o + 2) p = s (100 + 6 * p + 1) ∧ I (o + 3) p = s (100 + 6 * p + 2) ∧ I (o + 4) p = s (100 + 6 * p + 3) ∧ (s (100 + 6 * p) = 1 → I (o + 5) p = s (100 + 6 * p + 5)) ∧ (s (100 + 6 * p) ≠ 1 → I (o + 5) p = -1)) ∧
  (∀ f, 0 ≤ f → f < s 8 → I (o + 6) f = m_sz s f (-1) ∧ I (o + 7) f = m_lm s f (-1) ∧ (s (460 + 3 * f) = 1 → 0 ≤ s (460 + 3 * f + 1) → I (o + 8) f = s (460 + 3 * f + 1)) ∧ (s (460 + 3 * f) = 1 → s (460 + 3 * f + 1) < 0 → I (o + 8) f = -1) ∧ (s (460 + 3 * f) ≠ 1 → I (o + 8) f = -1) ∧ (s (460 + 3 * f) = 1 → 0 ≤ s (460 + 3 * f + 2) → I (o + 9) f = s (460 + 3 * f + 2)) ∧ (s (460 + 3 * f) = 1 → s (460 + 3 * f + 2) < 0 → I (o + 9) f = -1)) ∧
  (∀ h, 0 ≤ h → h < 24 → (I (o + 10) h = -1 → ∀ f, m_isF s f → s (460 + 3 * f + 1) ≠ h) ∧ (I (o + 10) h ≠ -1 → m_isF s (I (o + 10) h) ∧ s (460 + 3 * I (o + 10) h + 1) = h)) ∧
  (∀ m, 0 ≤ m → m < s 10 → I (o + 11) m = s (550 + 3 * m) ∧ I (o + 12) m = s (550 + 3 * m + 1) ∧ I (o + 13) m = s (550 + 3 * m + 2))
theorem c5 (rf : c_rf 20 I s) (w : m_w0 s) {p : Int} (hp : w_in p) (k1 : m_isP s p → Q (some (w_i 1)) I J b) (k0 : ¬ m_isP s p → Q (some (w_i 0)) I J b) : w_C xs xl 5 [.ref 20, w_i p] I J b Q := by
  simp only [c_rf, Nat.reduceAdd] at rf
  obtain ⟨e13, e14, e15, e16, rp, rff, rh, rm⟩ := rf
  have w0 := w.1
  have w2 := w.2.2.1 p
  have rp := rp p
  refine e5 ?_
  refine b5_0 ?_
  try simp only [w_Ug, reduceIte, Nat.reduceEqDiff, Int.reduceEq, eq_self, e13]
  repeat' (first | apply And.intro | intro)
  all_goals (try first | omega | contradiction)
  all_goals first | exact k0 (by omega) | exact k1 (by omega)
theorem c6 (rf : c_rf 20 I s) (wf : m_wf s) {f : Int} (hf : w_in f) (k1 : m_isF s f → Q (some (w_i 1)) I J b) (k0 : ¬ m_isF s f → Q (some (w_i 0)) I J b) : w_C xs xl 6 [.ref 20, w_i f] I J b Q := by
  simp only [c_rf, Nat.reduceAdd] at rf
  obtain ⟨e13, e14, e15, e16, rp, rff, rh, rm⟩ := rf
  have w0 := wf.1.1
  have rff := rff f
  have z := fun h => m_isF_sz wf (f := f) h
  have z2 := wf.2.2.1 f
  have z3 := m_sz_nn s f (-1)
  refine e6 ?_
  refine b6_0 ?_
  try simp only [w_Ug, reduceIte, Nat.reduceEqDiff, Int.reduceEq, eq_self, e14]
  repeat' (first | apply And.intro | intro)
  all_goals (try first | omega | contradiction)
  all_goals first | exact k0 (by omega) | exact k1 (by omega)
theorem c7 (rf : c_rf 20 I s) (w : m_w0 s) (k1 : s 7 = 60 ∨ s 8 = 30 → Q (some (w_i 1)) I J b) (k0 : ¬ (s 7 = 60 ∨ s 8 = 30) → Q (some (w_i 0)) I J b) : w_C xs xl 7 [.ref 20] I J b Q := by
  simp only [c_rf, Nat.reduceAdd] at rf
  obtain ⟨e13, e14, e15, e16, rp, rff, rh, rm⟩ := rf
  have w0 := w.1
  refine e7 ?_
  refine b7_0 ?_
  try simp only [w_Ug, reduceIte, Nat.reduceEqDiff, Int.reduceEq, eq_self, e13, e14]
  repeat' (first | apply And.intro | intro)
  all_goals (try first | omega | contradiction)
  all_goals first | exact k0 (by omega) | exact k1 (by omega)
theorem c11 (rf : c_rf 20 I s) (w : m_w0 s) {p t : Int} (hp : 0 ≤ p ∧ p < s 7) (ht : w_in t) (k : Q (some (w_i (m_pa s p t))) I J b) : w_C xs xl 11 [.ref 20, w_i p, w_i t] I J b Q := by
  simp only [c_rf, Nat.reduceAdd] at rf
  obtain ⟨e13, e14, e15, e16, rp, rff, rh, rm⟩ := rf
  have w0 := w.1
  have w2 := w.2.2.1 p hp.1 hp.2
  obtain ⟨r1, r2, r3, r4, r5, r6⟩ := rp p hp.1 hp.2
  refine e11 ?_
  unfold m_pa at k
  refine b11_0 ?_
  try simp only [w_Ug, reduceIte, Nat.reduceEqDiff, Int.reduceEq, eq_self, e15, r1, r2, r3]
  repeat' (first | apply And.intro | intro)
  all_goals (try first | omega | contradiction)
  · rename_i e
    rw [if_pos e] at k
    exact k
  · rename_i e
    rw [if_neg e] at k
    exact k
/-- all the cells of the folk at 20 -/
def pF (a : Nat) (_ : Int) : Bool := Nat.ble 20 a && Nat.ble a 33
theorem c_rf_die {p f : Int} {I' : w_I} (rf : c_rf 20 I s) (wf : m_wf s) (hp : m_isP s p) (hf : f = s (100 + 6 * p + 5))
    (hfr : ∀ a, a ≠ 25 → a ≠ 26 → a ≠ 27 → a ≠ 28 → a ≠ 30 → I' a = I a)
    (h25 : ∀ q, (q = p → I' 25 q = -1) ∧ (q ≠ p → I' 25 q = I 25 q))
    (h26 : ∀ g, (g = f → I' 26 g = I 26 f - 1) ∧ (g ≠ f → I' 26 g = I 26 g))
    (h27 : ∀ g, (g = f → I' 27 g = I 27 f - s (100 + 6 * p + 3)) ∧ (g ≠ f → I' 27 g = I 27 g))
    (h28 : ∀ g, (g = f ∧ m_sz s f (-1) = 1 → I' 28 g = -1) ∧ (¬ (g = f ∧ m_sz s f (-1) = 1) → I' 28 g = I 28 g))
    (h30 : ∀ h, (m_sz s f (-1) = 1 ∧ I 28 f = h ∧ I 28 f ≠ -1 → I' 30 h = -1) ∧ (¬ (m_sz s f (-1) = 1 ∧ I 28 f = h ∧ I 28 f ≠ -1) → I' 30 h = I 30 h)) : c_rf 20 I' (m_die s p) := by
  have w := wf.1
  have w0 := w.1
  have hp1 := hp.1
  have hp2 := hp.2.1
  have hp3 := hp.2.2
  have w2 := w.2.2.1
  have w3 := w.2.2.2.1
  have wp := w2 p hp1 hp2
  have d : ∀ k, k ≠ 100 + 6 * p → k ≠ 460 + 3 * f → m_die s p k = s k := fun k h1 h2 => m_die_r h1 (by rw [← hf]; exact h2)
  have df := m_die_f wf hp
  have dp := m_die_p wf hp
  have dz := m_die_sz wf hp
  have dl := m_die_lm wf hp
  rw [← hf] at df dz dl
  simp only [c_rf, Nat.reduceAdd] at rf
  obtain ⟨e13, e14, e15, e16, rp, rff, rh, rm⟩ := rf
  have d7 := d 7 (by omega) (by omega)
  have d8 := d 8 (by omega) (by omega)
  simp only [c_rf, Nat.reduceAdd]
  rw [hfr 20 (by decide) (by decide) (by decide) (by decide) (by decide), hfr 21 (by decide) (by decide) (by decide) (by decide) (by decide), hfr 22 (by decide) (by decide) (by decide) (by decide) (by decide), hfr 23 (by decide) (by decide) (by decide) (by decide) (by decide), hfr 24 (by decide) (by decide) (by decide) (by decide) (by decide), hfr 29 (by decide) (by decide) (by decide) (by decide) (by decide), hfr 31 (by decide) (by decide) (by decide) (by decide) (by decide), hfr 32 (by decide) (by decide) (by decide) (by decide) (by decide), hfr 33 (by decide) (by decide) (by decide) (by decide) (by decide)]
  rw [d7, d8, d 9 (by omega) (by omega), d 10 (by omega) (by omega)]
  refine ⟨e13, e14, e15, e16, ?_, ?_, ?_, ?_⟩
  · intro q h0 h1
    have rp := rp q h0 h1
    have wq := w2 q h0 h1
    have h25 := h25 q
    rw [d (100 + 6 * q + 4) (by omega) (by omega), d (100 + 6 * q + 1) (by omega) (by omega), d (100 + 6 * q + 2) (by omega) (by omega), d (100 + 6 * q + 3) (by omega) (by omega), d (100 + 6 * q + 5) (by omega) (by omega)]
    refine ⟨rp.1, rp.2.1, rp.2.2.1, rp.2.2.2.1, ?_⟩
    by_cases e : q = p
    · subst e
      rw [dp]
      omega
    · rw [d (100 + 6 * q) (by omega) (by omega)]
      omega
  · intro g h0 h1
    have rg := rff g h0 h1
    have h26 := h26 g
    have h27 := h27 g
    have h28 := h28 g
    rw [dz g, dl g, d (460 + 3 * g + 1) (by omega) (by omega), d (460 + 3 * g + 2) (by omega) (by omega)]
    by_cases e : g = f
    · subst e
      rw [if_pos rfl, if_pos rfl]
      have := wf.2.1 p hp
      rw [← hf] at this
      refine ⟨by omega, by omega, ?_⟩
      by_cases hz : m_sz s g (-1) = 1
      · have := df.1 hz
        omega
      · have := df.2 hz
        omega
    · rw [if_neg (fun h => e h.symm), if_neg (fun h => e h.symm), d (460 + 3 * g) (by omega) (by omega)]
      omega
  · intro h h0 h1
    have rh := rh h h0 h1
    have h30 := h30 h
    have rgf := rff f (by omega) (by omega)
    have ff : m_isF s f := ⟨by omega, by omega, by have := wf.2.1 p hp; rw [← hf] at this; exact this⟩
    have ff3 := ff.2.2
    have live : ∀ g, m_isF (m_die s p) g → m_isF s g ∧ m_die s p (460 + 3 * g + 1) = s (460 + 3 * g + 1) ∧ (g = f → m_sz s f (-1) ≠ 1) := by
      intro g hg
      have g1 := hg.1
      have g2 := hg.2.1
      have g3 := hg.2.2
      rw [d8] at g2
      refine ⟨⟨g1, g2, ?_⟩, d _ (by omega) (by omega), ?_⟩
      · by_cases e : g = f
        · subst e; exact ff3
        · rw [d (460 + 3 * g) (by omega) (by omega)] at g3; exact g3
      · intro e hz
        subst e
        have := df.1 hz
        omega
    by_cases hc : m_sz s f (-1) = 1 ∧ I 28 f = h ∧ I 28 f ≠ -1
    · rw [h30.1 hc]
      refine ⟨fun _ g hg => ?_, fun e => absurd rfl e⟩
      obtain ⟨l1, l2, l3⟩ := live g hg
      rw [l2]
      intro e
      have wg := w3 g l1.1 l1.2.1
      have := wf.2.2.2 f g ff l1 (by omega) (by omega)
      exact l3 this.symm hc.1
    · rw [h30.2 hc]
      refine ⟨fun e g hg => ?_, fun e => ?_⟩
      · obtain ⟨l1, l2, l3⟩ := live g hg
        rw [l2]
        exact rh.1 e g l1
      · obtain ⟨r1, r2⟩ := rh.2 e
        have hd1 := r1.1
        have hd2 := r1.2.1
        have hd3 := r1.2.2
        refine ⟨⟨hd1, by rw [d8]; exact hd2, ?_⟩, ?_⟩
        · by_cases e2 : I 30 h = f
          · rw [e2] at r2 ⊢
            have : m_sz s f (-1) ≠ 1 := fun hz => hc ⟨hz, by omega, by omega⟩
            exact df.2 this
          · rw [d _ (by omega) (by omega)]; exact hd3
        · rw [d _ (by omega) (by omega)]; exact r2
  · intro m h0 h1
    rw [d (550 + 3 * m) (by omega) (by omega), d (550 + 3 * m + 1) (by omega) (by omega), d (550 + 3 * m + 2) (by omega) (by omega)]
    exact rm m h0 h1
end
