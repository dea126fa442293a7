section
/-! somebody enters a family; somebody comes -/
variable {xs : Nat → Int32} {xl : Nat} {I J : w_I} {b : Bool} {Q : Option Value → w_I → w_I → Bool → Prop}
variable {s : Int → Int}
theorem c_rf_in {D E : Int → Int} {p g : Int} {I' : w_I} (rf : c_rf 20 I D) (b7 : D 7 ≤ 60) (b8 : D 8 ≤ 30) (hp : 0 ≤ p ∧ p < D 7) (hg : 0 ≤ g ∧ g < D 8) (hd : D (100 + 6 * p) ≠ 1) (h1 : E (100 + 6 * p) = 1) (h5 : E (100 + 6 * p + 5) = g)
    (ho : ∀ k, k ≠ 100 + 6 * p → k ≠ 100 + 6 * p + 5 → E k = D k)
    (hfr : ∀ a, a ≠ 25 → a ≠ 26 → a ≠ 27 → I' a = I a)
    (h25 : ∀ q, (q = p → I' 25 q = g) ∧ (q ≠ p → I' 25 q = I 25 q))
    (h26 : ∀ h, (h = g → I' 26 h = I 26 g + 1) ∧ (h ≠ g → I' 26 h = I 26 h))
    (h27 : ∀ h, (h = g → I' 27 h = I 27 g + I 24 p) ∧ (h ≠ g → I' 27 h = I 27 h)) : c_rf 20 I' E := by
  simp only [c_rf, Nat.reduceAdd] at rf
  obtain ⟨e13, e14, e15, e16, rp, rff, rh, rm⟩ := rf
  have d7 := ho 7 (by omega) (by omega)
  have d8 := ho 8 (by omega) (by omega)
  have hm : ¬ m_in D g (-1) p ∧ ∀ h, ¬ m_in D h (-1) p := ⟨fun h => hd h.1, fun _ h => hd h.1⟩
  have hm2 : ∀ h, 0 ≤ h → (m_in E h (-1) p ↔ g = h) := by
    intro h hh
    simp only [m_in]
    omega
  have dz : ∀ h, 0 ≤ h → m_sz E h (-1) = m_sz D h (-1) + (if g = h then 1 else 0) := by
    intro h hh
    rw [m_szU (s := D) (p := p) hp d7 (fun i h0 h1 hne => ⟨ho _ (by omega) (by omega), ho _ (by omega) (by omega)⟩), if_neg (hm.2 h)]
    simp only [hm2 h hh]
    omega
  have r24 : I 24 p = D (100 + 6 * p + 3) := (rp p hp.1 hp.2).2.2.2.1
  have d3 : E (100 + 6 * p + 3) = D (100 + 6 * p + 3) := ho _ (by omega) (by omega)
  have dl : ∀ h, 0 ≤ h → m_lm E h (-1) = m_lm D h (-1) + (if g = h then I 24 p else 0) := by
    intro h hh
    rw [m_lmU (s := D) (p := p) hp d7 (fun i h0 h1 hne => ⟨ho _ (by omega) (by omega), ho _ (by omega) (by omega), ho _ (by omega) (by omega)⟩), if_neg (hm.2 h)]
    simp only [hm2 h hh]
    rw [d3, r24]
    omega
  simp only [c_rf, Nat.reduceAdd]
  rw [hfr 20 (by decide) (by decide) (by decide), hfr 21 (by decide) (by decide) (by decide), hfr 22 (by decide) (by decide) (by decide), hfr 23 (by decide) (by decide) (by decide), hfr 24 (by decide) (by decide) (by decide), hfr 28 (by decide) (by decide) (by decide), hfr 29 (by decide) (by decide) (by decide), hfr 30 (by decide) (by decide) (by decide), hfr 31 (by decide) (by decide) (by decide), hfr 32 (by decide) (by decide) (by decide), hfr 33 (by decide) (by decide) (by decide)]
  rw [d7, d8, ho 9 (by omega) (by omega), ho 10 (by omega) (by omega)]
  refine ⟨e13, e14, e15, e16, ?_, ?_, ?_, ?_⟩
  · intro q h0 h1'
    have rp := rp q h0 h1'
    have h25 := h25 q
    by_cases e : q = p
    · subst e
      rw [h1, h5, d3, ho (100 + 6 * q + 4) (by omega) (by omega), ho (100 + 6 * q + 1) (by omega) (by omega), ho (100 + 6 * q + 2) (by omega) (by omega)]
      exact ⟨rp.1, rp.2.1, rp.2.2.1, rp.2.2.2.1, fun _ => h25.1 rfl, fun h => absurd rfl h⟩
    · rw [ho (100 + 6 * q + 4) (by omega) (by omega), ho (100 + 6 * q + 1) (by omega) (by omega), ho (100 + 6 * q + 2) (by omega) (by omega), ho (100 + 6 * q + 3) (by omega) (by omega), ho (100 + 6 * q + 5) (by omega) (by omega), ho (100 + 6 * q) (by omega) (by omega), h25.2 e]
      exact rp
  · intro h h0 h1'
    have rg := rff h h0 h1'
    have h26 := h26 h
    have h27 := h27 h
    rw [dz h h0, dl h h0, ho (460 + 3 * h) (by omega) (by omega), ho (460 + 3 * h + 1) (by omega) (by omega), ho (460 + 3 * h + 2) (by omega) (by omega)]
    refine ⟨?_, ?_, rg.2.2⟩
    · by_cases e : h = g
      · subst e; rw [if_pos rfl, h26.1 rfl, rg.1]
      · rw [if_neg (fun x => e x.symm), h26.2 e, rg.1]; omega
    · by_cases e : h = g
      · subst e; rw [if_pos rfl, h27.1 rfl, rg.2.1]
      · rw [if_neg (fun x => e x.symm), h27.2 e, rg.2.1]; omega
  · intro h h0 h1'
    have rh := rh h h0 h1'
    refine ⟨fun e f hf => ?_, fun e => ?_⟩
    · have hf1 := hf.1
      have hf2 := hf.2.1
      have hf3 := hf.2.2
      rw [d8] at hf2
      rw [ho (460 + 3 * f) (by omega) (by omega)] at hf3
      rw [ho (460 + 3 * f + 1) (by omega) (by omega)]
      exact rh.1 e f ⟨hf1, hf2, hf3⟩
    · obtain ⟨r1, r2⟩ := rh.2 e
      have hf1 := r1.1
      have hf2 := r1.2.1
      have hf3 := r1.2.2
      refine ⟨⟨hf1, by rw [d8]; exact hf2, ?_⟩, ?_⟩
      · rw [ho _ (by omega) (by omega)]; exact hf3
      · rw [ho _ (by omega) (by omega)]; exact r2
  · intro m h0 h1'
    rw [ho (550 + 3 * m) (by omega) (by omega), ho (550 + 3 * m + 1) (by omega) (by omega), ho (550 + 3 * m + 2) (by omega) (by omega)]
    exact rm m h0 h1'
theorem c13 {D E : Int → Int} {p g : Int} (rf : c_rf 20 I D) (b7 : D 7 ≤ 60) (b8 : D 8 ≤ 30) (hp : 0 ≤ p ∧ p < D 7) (hg : 0 ≤ g ∧ g < D 8) (hd : D (100 + 6 * p) ≠ 1) (h1 : E (100 + 6 * p) = 1) (h5 : E (100 + 6 * p + 5) = g)
    (ho : ∀ k, k ≠ 100 + 6 * p → k ≠ 100 + 6 * p + 5 → E k = D k) (k : ∀ I', w_fr pF I I' → c_rf 20 I' E → Q none I' J b) : w_C xs xl 13 [.ref 20, w_i p, w_i g] I J b Q := by
  refine e13 ?_
  refine b13_0 ?_
  try simp only [w_Ug, reduceIte, Nat.reduceEqDiff, Int.reduceEq, eq_self, if_true]
  repeat' (first | apply And.intro | intro)
  all_goals (try first | omega | contradiction)
  refine k _ ?_ (c_rf_in rf b7 b8 hp hg hd h1 h5 ho ?_ ?_ ?_ ?_)
  · exact w_frU (w_frU (w_frU w_frr rfl) rfl) rfl
  · intro a a1 a2 a3
    rw [w_Ua a3, w_Ua a2, w_Ua a1]
  · intro q
    simp only [w_Ug, reduceIte, Nat.reduceEqDiff]
    exact ⟨fun h => if_pos h, fun h => if_neg h⟩
  · intro q
    simp only [w_Ug, reduceIte, Nat.reduceEqDiff]
    exact ⟨fun h => if_pos h, fun h => if_neg h⟩
  · intro q
    simp only [w_Ug, reduceIte, Nat.reduceEqDiff]
    exact ⟨fun h => if_pos h, fun h => if_neg h⟩
/-- somebody comes -/
def m_enter (s : Int → Int) (y t l : Int) : Int → Int := fun k =>
  if k = 8 then s 8 + 1 else if k = 7 then s 7 + 1 else if k = 460 + 3 * s 8 + 2 then -2 else if k = 460 + 3 * s 8 + 1 then -2 else if k = 460 + 3 * s 8 then 1 else if k = 100 + 6 * s 7 + 5 then s 8 else if k = 100 + 6 * s 7 + 4 then s 9 else if k = 100 + 6 * s 7 + 3 then l else if k = 100 + 6 * s 7 + 2 then t else if k = 100 + 6 * s 7 + 1 then y else if k = 100 + 6 * s 7 then 1 else s k
def p110 (a : Nat) (_ : Int) : Bool := a == 110
theorem s220 (hs : I 110 = s) (w : m_w0 s) (h7 : s 7 < 60) (h8 : s 8 < 30) {y t l : Int} (hl : l = 0 ∨ l = 1) (k : ∀ I', w_fr p110 I I' → I' 110 = m_enter s y t l → Q (some (w_i (s 7))) I' J b) : w_C xs xl 220 [.ref 104, w_i y, w_i t, w_i l] I J b Q := by
  have w0 := w.1
  refine e220 ?_
  rcases hl with rfl | rfl
  · refine b220_0 ?_
    try simp only [w_Ug, reduceIte, Nat.reduceEqDiff, Int.reduceEq, eq_self, hs]
    try simp (disch := omega) only [if_neg, if_pos, if_true, if_false]
    repeat' (first | apply And.intro | intro)
    all_goals (try first | omega | contradiction)
    refine k _ ?_ ?_
    · exact w_frU (w_frU (w_frU (w_frU (w_frU (w_frU (w_frU (w_frU (w_frU (w_frU (w_frU w_frr rfl) rfl) rfl) rfl) rfl) rfl) rfl) rfl) rfl) rfl) rfl
    · funext k'
      simp only [w_Ug, reduceIte, hs, m_enter]
  · refine b220_0 ?_
    try simp only [w_Ug, reduceIte, Nat.reduceEqDiff, Int.reduceEq, eq_self, hs]
    try simp (disch := omega) only [if_neg, if_pos, if_true, if_false]
    repeat' (first | apply And.intro | intro)
    all_goals (try first | omega | contradiction)
    refine k _ ?_ ?_
    · exact w_frU (w_frU (w_frU (w_frU (w_frU (w_frU (w_frU (w_frU (w_frU (w_frU (w_frU w_frr rfl) rfl) rfl) rfl) rfl) rfl) rfl) rfl) rfl) rfl) rfl
    · funext k'
      simp only [w_Ug, reduceIte, hs, m_enter]
end
