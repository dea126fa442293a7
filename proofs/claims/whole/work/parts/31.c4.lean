section
/-! somebody comes: the class; the state stays sound -/
variable {xs : Nat → Int32} {xl : Nat} {I J : w_I} {b : Bool} {Q : Option Value → w_I → w_I → Bool → Prop}
variable {s : Int → Int}
theorem m_en_r {y t l k : Int} (w : m_w0 s) (h : k < 100 + 6 * s 7 ∨ (460 ≤ k ∧ k < 460 + 3 * s 8) ∨ 550 ≤ k) (h7 : k ≠ 7) (h8 : k ≠ 8) (a7 : s 7 < 60) (a8 : s 8 < 30) : m_enter s y t l k = s k := by
  have w0 := w.1
  unfold m_enter
  simp (disch := omega) only [if_neg]
theorem m_en_8 {y t l : Int} : m_enter s y t l 8 = s 8 + 1 := by
  unfold m_enter
  rw [if_pos rfl]
theorem m_en_7 {y t l : Int} : m_enter s y t l 7 = s 7 + 1 := by
  unfold m_enter
  rw [if_neg (by decide), if_pos rfl]
theorem m_en_p {y t l : Int} (w : m_w0 s) (a7 : s 7 < 60) (a8 : s 8 < 30) : m_enter s y t l (100 + 6 * s 7) = 1 ∧ m_enter s y t l (100 + 6 * s 7 + 1) = y ∧ m_enter s y t l (100 + 6 * s 7 + 2) = t ∧ m_enter s y t l (100 + 6 * s 7 + 3) = l ∧ m_enter s y t l (100 + 6 * s 7 + 4) = s 9 ∧ m_enter s y t l (100 + 6 * s 7 + 5) = s 8 ∧ m_enter s y t l (460 + 3 * s 8) = 1 ∧ m_enter s y t l (460 + 3 * s 8 + 1) = -2 ∧ m_enter s y t l (460 + 3 * s 8 + 2) = -2 := by
  have w0 := w.1
  unfold m_enter
  simp (disch := omega) only [if_neg, if_pos, if_true]
  exact ⟨trivial, trivial, trivial, trivial, trivial, trivial, trivial, trivial, trivial⟩
/-- sums over one person more -/
theorem m_sz_more {E : Int → Int} (w : m_w0 s) (h7 : E 7 = s 7 + 1) (ho : ∀ i, 0 ≤ i → i < s 7 → E (100 + 6 * i) = s (100 + 6 * i) ∧ E (100 + 6 * i + 5) = s (100 + 6 * i + 5)) (f g : Int) : m_sz E f g = m_sz s f g + (if m_in E f g (s 7) then 1 else 0) := by
  have w0 := w.1
  unfold m_sz
  rw [h7, show (s 7 + 1).toNat = (s 7).toNat + 1 by omega, m_sum_s, show (((s 7).toNat : Nat) : Int) = s 7 by omega]
  congr 1
  refine m_sum_c _ (fun i hi => ?_)
  obtain ⟨e1, e2⟩ := ho i (by omega) (by omega)
  show (if (E (100 + 6 * (i : Int)) = 1 ∧ (E (100 + 6 * (i : Int) + 5) = f ∨ E (100 + 6 * (i : Int) + 5) = g)) then (1 : Int) else 0) = _
  rw [e1, e2]
theorem m_lm_more {E : Int → Int} (w : m_w0 s) (h7 : E 7 = s 7 + 1) (ho : ∀ i, 0 ≤ i → i < s 7 → E (100 + 6 * i) = s (100 + 6 * i) ∧ E (100 + 6 * i + 3) = s (100 + 6 * i + 3) ∧ E (100 + 6 * i + 5) = s (100 + 6 * i + 5)) (f g : Int) : m_lm E f g = m_lm s f g + (if m_in E f g (s 7) then E (100 + 6 * s 7 + 3) else 0) := by
  have w0 := w.1
  unfold m_lm
  rw [h7, show (s 7 + 1).toNat = (s 7).toNat + 1 by omega, m_sum_s, show (((s 7).toNat : Nat) : Int) = s 7 by omega]
  congr 1
  refine m_sum_c _ (fun i hi => ?_)
  obtain ⟨e1, e2, e3⟩ := ho i (by omega) (by omega)
  show (if (E (100 + 6 * (i : Int)) = 1 ∧ (E (100 + 6 * (i : Int) + 5) = f ∨ E (100 + 6 * (i : Int) + 5) = g)) then E (100 + 6 * (i : Int) + 3) else 0) = _
  rw [e1, e2, e3]
theorem m_sz_new (w : m_w0 s) : m_sz s (s 8) (-1) = 0 := by
  rw [m_sz_z]
  intro p h0 h1 h
  have := w.2.2.1 p h0 h1
  have := h.2
  omega
theorem m_lm_new (w : m_w0 s) : m_lm s (s 8) (-1) = 0 := by
  have h := (m_sz_z s (s 8) (-1)).mp (m_sz_new w)
  unfold m_lm
  have : m_sum (fun p => if m_in s (s 8) (-1) p then s (100 + 6 * p + 3) else 0) (s 7).toNat = m_sum (fun _ => 0) (s 7).toNat := m_sum_c _ (fun i hi => if_neg (h i (by omega) (by omega)))
  rw [this]
  generalize (s 7).toNat = n
  induction n with
  | zero => rfl
  | succ n ih => rw [m_sum_s, ih]; rfl
theorem m_wf_enter {y t l : Int} (wf : m_wf s) (a7 : s 7 < 60) (a8 : s 8 < 30) (hy : 0 ≤ y ∧ y ≤ 99) (ht : 0 ≤ t ∧ t ≤ 99) (hl : l = 0 ∨ l = 1) : m_wf (m_enter s y t l) := by
  have w := wf.1
  obtain ⟨w0, w1, w2, w3, w4⟩ := w
  have w := wf.1
  have r : ∀ k, (k < 100 + 6 * s 7 ∨ (460 ≤ k ∧ k < 460 + 3 * s 8) ∨ 550 ≤ k) → k ≠ 7 → k ≠ 8 → m_enter s y t l k = s k := fun k h h7 h8 => m_en_r w h h7 h8 a7 a8
  obtain ⟨n0, n1, n2, n3, n4, n5, n6, n7', n8⟩ := m_en_p (y := y) (t := t) (l := l) w a7 a8
  have i0 : ∀ f, m_isF (m_enter s y t l) f → f ≠ s 8 → m_isF s f := by
    intro f hf hne
    have h1 := hf.1
    have h2 := hf.2.1
    have h3 := hf.2.2
    rw [m_en_8] at h2
    rw [r _ (by omega) (by omega) (by omega)] at h3
    exact ⟨h1, by omega, h3⟩
  refine ⟨⟨?_, ?_, ?_, ?_, ?_⟩, ?_, ?_, ?_⟩
  · rw [m_en_8, m_en_7, r 0 (by omega) (by omega) (by omega), r 1 (by omega) (by omega) (by omega), r 2 (by omega) (by omega) (by omega), r 3 (by omega) (by omega) (by omega), r 4 (by omega) (by omega) (by omega), r 9 (by omega) (by omega) (by omega), r 10 (by omega) (by omega) (by omega)]
    omega
  · intro h h0 h1
    rw [r 0 (by omega) (by omega) (by omega)] at h1
    rw [r (20 + h) (by omega) (by omega) (by omega), r (50 + h) (by omega) (by omega) (by omega)]
    exact w1 h h0 h1
  · intro p h0 h1
    rw [m_en_7] at h1
    rw [m_en_8, r 9 (by omega) (by omega) (by omega)]
    by_cases e : p = s 7
    · subst e
      rw [n0, n1, n2, n3, n4, n5]
      omega
    · have := w2 p h0 (by omega)
      rw [r (100 + 6 * p) (by omega) (by omega) (by omega), r (100 + 6 * p + 1) (by omega) (by omega) (by omega), r (100 + 6 * p + 2) (by omega) (by omega) (by omega), r (100 + 6 * p + 3) (by omega) (by omega) (by omega), r (100 + 6 * p + 4) (by omega) (by omega) (by omega), r (100 + 6 * p + 5) (by omega) (by omega) (by omega)]
      omega
  · intro f h0 h1
    rw [m_en_8] at h1
    rw [r 0 (by omega) (by omega) (by omega)]
    by_cases e : f = s 8
    · subst e
      rw [n6, n7', n8]
      omega
    · have := w3 f h0 (by omega)
      rw [r (460 + 3 * f) (by omega) (by omega) (by omega), r (460 + 3 * f + 1) (by omega) (by omega) (by omega), r (460 + 3 * f + 2) (by omega) (by omega) (by omega)]
      exact this
  · intro m h0 h1
    rw [r 10 (by omega) (by omega) (by omega)] at h1
    rw [m_en_8, r 0 (by omega) (by omega) (by omega), r (550 + 3 * m) (by omega) (by omega) (by omega), r (550 + 3 * m + 1) (by omega) (by omega) (by omega), r (550 + 3 * m + 2) (by omega) (by omega) (by omega)]
    have := w4 m h0 h1
    omega
  · intro p hp
    have h1 := hp.1
    have h2 := hp.2.1
    have h3 := hp.2.2
    rw [m_en_7] at h2
    by_cases e : p = s 7
    · subst e
      rw [n5, n6]
    · have := w2 p h1 (by omega)
      rw [r (100 + 6 * p) (by omega) (by omega) (by omega)] at h3
      rw [r (100 + 6 * p + 5) (by omega) (by omega) (by omega), r _ (by omega) (by omega) (by omega)]
      exact wf.2.1 p ⟨h1, by omega, h3⟩
  · intro f hf
    rw [m_sz_more w m_en_7 (fun i h0 h1 => ⟨r _ (by omega) (by omega) (by omega), r _ (by omega) (by omega) (by omega)⟩)]
    have : m_in (m_enter s y t l) f (-1) (s 7) ↔ s 8 = f := by
      simp only [m_in]
      rw [n0, n5]
      omega
    simp only [this]
    by_cases e : f = s 8
    · subst e
      rw [if_pos rfl, m_sz_new w]
      omega
    · rw [if_neg (fun h => e h.symm)]
      have := wf.2.2.1 f (i0 f hf e)
      omega
  · intro f g hf hg e1 e2
    by_cases ef : f = s 8
    · subst ef; rw [n7'] at e1; omega
    · have jf := i0 f hf ef
      rw [r (460 + 3 * f + 1) (by have := jf.1; have := jf.2.1; omega) (by have := jf.1; omega) (by have := jf.1; omega)] at e1 e2
      by_cases eg : g = s 8
      · subst eg; rw [n7'] at e2; omega
      · have jg := i0 g hg eg
        rw [r (460 + 3 * g + 1) (by have := jg.1; have := jg.2.1; omega) (by have := jg.1; omega) (by have := jg.1; omega)] at e2
        exact wf.2.2.2 f g jf jg e1 e2
theorem c_rf_new {y t l : Int} {I' : w_I} (rf : c_rf 20 I s) (w : m_w0 s) (a7 : s 7 < 60) (a8 : s 8 < 30)
    (g13 : I' 20 13 = s 7 + 1) (g14 : I' 20 14 = s 8 + 1) (g15 : I' 20 15 = I 20 15) (g16 : I' 20 16 = I 20 16)
    (hfr : I' 25 = I 25 ∧ I' 30 = I 30 ∧ I' 31 = I 31 ∧ I' 32 = I 32 ∧ I' 33 = I 33)
    (hp : ∀ q, (q = s 7 → I' 21 q = s 9 ∧ I' 22 q = y ∧ I' 23 q = t ∧ I' 24 q = l) ∧ (q ≠ s 7 → I' 21 q = I 21 q ∧ I' 22 q = I 22 q ∧ I' 23 q = I 23 q ∧ I' 24 q = I 24 q))
    (hq : ∀ f, (f = s 8 → I' 26 f = 0 ∧ I' 27 f = 0 ∧ I' 28 f = -1 ∧ I' 29 f = -1) ∧ (f ≠ s 8 → I' 26 f = I 26 f ∧ I' 27 f = I 27 f ∧ I' 28 f = I 28 f ∧ I' 29 f = I 29 f)) (hx : I 25 (s 7) = -1 ∨ True) :
    ∀ x, (∀ k, k ≠ 25 → x k = I' k) → x 25 (s 7) = -1 → (∀ q, q ≠ s 7 → x 25 q = I 25 q) → c_rf 20 x (u1 (m_enter s y t l) (100 + 6 * s 7) 0) := by
  intro x hx1 hx2 hx3
  have w0 := w.1
  obtain ⟨n0, n1, n2, n3, n4, n5, n6, n7', n8⟩ := m_en_p (y := y) (t := t) (l := l) w a7 a8
  have r : ∀ k, (k < 100 + 6 * s 7 ∨ (460 ≤ k ∧ k < 460 + 3 * s 8) ∨ 550 ≤ k) → k ≠ 7 → k ≠ 8 → u1 (m_enter s y t l) (100 + 6 * s 7) 0 k = s k := fun k h h7 h8 => by
    rw [u1g, if_neg (by omega)]
    exact m_en_r w h h7 h8 a7 a8
  have r2 : ∀ k, k ≠ 100 + 6 * s 7 → u1 (m_enter s y t l) (100 + 6 * s 7) 0 k = m_enter s y t l k := fun k h => by rw [u1g, if_neg h]
  have r0 : u1 (m_enter s y t l) (100 + 6 * s 7) 0 (100 + 6 * s 7) = 0 := by rw [u1g, if_pos rfl]
  generalize u1 (m_enter s y t l) (100 + 6 * s 7) 0 = D at r r2 r0 ⊢
  have d7 : D 7 = s 7 + 1 := by rw [r2 7 (by omega), m_en_7]
  have d8 : D 8 = s 8 + 1 := by rw [r2 8 (by omega), m_en_8]
  have hn : ∀ f, ¬ m_in D f (-1) (s 7) := fun f h => by
    have := h.1
    rw [r0] at this
    omega
  have dz : ∀ f, m_sz D f (-1) = m_sz s f (-1) := by
    intro f
    rw [m_sz_more w d7 (fun i h0 h1 => ⟨r _ (by omega) (by omega) (by omega), r _ (by omega) (by omega) (by omega)⟩), if_neg (hn f)]
    omega
  have dl : ∀ f, m_lm D f (-1) = m_lm s f (-1) := by
    intro f
    rw [m_lm_more w d7 (fun i h0 h1 => ⟨r _ (by omega) (by omega) (by omega), r _ (by omega) (by omega) (by omega), r _ (by omega) (by omega) (by omega)⟩), if_neg (hn f)]
    omega
  simp only [c_rf, Nat.reduceAdd] at rf
  obtain ⟨e13, e14, e15, e16, rp, rff, rh, rm⟩ := rf
  simp only [c_rf, Nat.reduceAdd]
  rw [hx1 20 (by decide), hx1 21 (by decide), hx1 22 (by decide), hx1 23 (by decide), hx1 24 (by decide), hx1 26 (by decide), hx1 27 (by decide), hx1 28 (by decide), hx1 29 (by decide), hx1 30 (by decide), hx1 31 (by decide), hx1 32 (by decide), hx1 33 (by decide), hfr.2.1, hfr.2.2.1, hfr.2.2.2.1, hfr.2.2.2.2]
  rw [d7, d8, r 9 (by omega) (by omega) (by omega), r 10 (by omega) (by omega) (by omega)]
  refine ⟨g13, g14, by rw [g15]; exact e15, by rw [g16]; exact e16, ?_, ?_, ?_, ?_⟩
  · intro q h0 h1
    have hp := hp q
    by_cases e : q = s 7
    · subst e
      obtain ⟨b1, b2, b3, b4⟩ := hp.1 rfl
      rw [b1, b2, b3, b4, r0, r2 _ (by omega), r2 _ (by omega), r2 _ (by omega), r2 _ (by omega), r2 _ (by omega), n1, n2, n3, n4, n5]
      exact ⟨rfl, rfl, rfl, rfl, fun h => by omega, fun _ => hx2⟩
    · obtain ⟨b1, b2, b3, b4⟩ := hp.2 e
      rw [b1, b2, b3, b4, hx3 q e, r (100 + 6 * q) (by omega) (by omega) (by omega), r (100 + 6 * q + 1) (by omega) (by omega) (by omega), r (100 + 6 * q + 2) (by omega) (by omega) (by omega), r (100 + 6 * q + 3) (by omega) (by omega) (by omega), r (100 + 6 * q + 4) (by omega) (by omega) (by omega), r (100 + 6 * q + 5) (by omega) (by omega) (by omega)]
      exact rp q h0 (by omega)
  · intro f h0 h1
    have hq := hq f
    rw [dz, dl]
    by_cases e : f = s 8
    · subst e
      obtain ⟨b1, b2, b3, b4⟩ := hq.1 rfl
      rw [b1, b2, b3, b4, m_sz_new w, m_lm_new w, r2 _ (by omega), r2 _ (by omega), r2 _ (by omega), n6, n7', n8]
      omega
    · obtain ⟨b1, b2, b3, b4⟩ := hq.2 e
      rw [b1, b2, b3, b4, r (460 + 3 * f) (by omega) (by omega) (by omega), r (460 + 3 * f + 1) (by omega) (by omega) (by omega), r (460 + 3 * f + 2) (by omega) (by omega) (by omega)]
      exact rff f h0 (by omega)
  · intro h h0 h1
    have rh := rh h h0 h1
    refine ⟨fun e f hf => ?_, fun e => ?_⟩
    · have hf1 := hf.1
      have hf2 := hf.2.1
      have hf3 := hf.2.2
      rw [d8] at hf2
      by_cases ef : f = s 8
      · subst ef
        rw [r2 _ (by omega), n7']
        omega
      · rw [r (460 + 3 * f) (by omega) (by omega) (by omega)] at hf3
        rw [r (460 + 3 * f + 1) (by omega) (by omega) (by omega)]
        exact rh.1 e f ⟨hf1, by omega, hf3⟩
    · obtain ⟨q1, q2⟩ := rh.2 e
      have hf1 := q1.1
      have hf2 := q1.2.1
      have hf3 := q1.2.2
      refine ⟨⟨hf1, by rw [d8]; omega, ?_⟩, ?_⟩
      · rw [r _ (by omega) (by omega) (by omega)]; exact hf3
      · rw [r _ (by omega) (by omega) (by omega)]; exact q2
  · intro m h0 h1
    rw [r (550 + 3 * m) (by omega) (by omega) (by omega), r (550 + 3 * m + 1) (by omega) (by omega) (by omega), r (550 + 3 * m + 2) (by omega) (by omega) (by omega)]
    exact rm m h0 h1
end
