section
/-! the reference: people come, join, die -/
variable {xs : Nat → Int32} {xl : Nat} {I J : w_I} {b : Bool} {Q : Option Value → w_I → w_I → Bool → Prop}
variable {s : Int → Int}
def u1 (s : Int → Int) (k v : Int) : Int → Int := fun k' => if k' = k then v else s k'
theorem u1g {s : Int → Int} {k v k' : Int} : u1 s k v k' = if k' = k then v else s k' := rfl
theorem w_U1 {I : w_I} {a : Nat} {k v : Int} : w_U I a k v a = u1 (I a) k v := by
  unfold w_U u1
  rw [if_pos rfl]
theorem m_szU {s s' : Int → Int} {p : Int} (hp : 0 ≤ p ∧ p < s 7) (h7 : s' 7 = s 7) (ha : ∀ i, 0 ≤ i → i < s 7 → i ≠ p → s' (100 + 6 * i) = s (100 + 6 * i) ∧ s' (100 + 6 * i + 5) = s (100 + 6 * i + 5)) (f g : Int) :
    m_sz s' f g = m_sz s f g - (if m_in s f g p then 1 else 0) + (if m_in s' f g p then 1 else 0) := by
  unfold m_sz
  rw [h7]
  have := m_sum_u (P := fun q => if m_in s' f g q then 1 else 0) (R := fun q => if m_in s f g q then 1 else 0) (j := p.toNat) (s 7).toNat (by omega) (fun i hi hne => by
    obtain ⟨e1, e2⟩ := ha i (by omega) (by omega) (by omega)
    show (if (s' (100 + 6 * (i : Int)) = 1 ∧ (s' (100 + 6 * (i : Int) + 5) = f ∨ s' (100 + 6 * (i : Int) + 5) = g)) then (1 : Int) else 0) = _
    rw [e1, e2])
  rw [this, show ((p.toNat : Nat) : Int) = p by omega]
theorem m_lmU {s s' : Int → Int} {p : Int} (hp : 0 ≤ p ∧ p < s 7) (h7 : s' 7 = s 7) (ha : ∀ i, 0 ≤ i → i < s 7 → i ≠ p → s' (100 + 6 * i) = s (100 + 6 * i) ∧ s' (100 + 6 * i + 3) = s (100 + 6 * i + 3) ∧ s' (100 + 6 * i + 5) = s (100 + 6 * i + 5)) (f g : Int) :
    m_lm s' f g = m_lm s f g - (if m_in s f g p then s (100 + 6 * p + 3) else 0) + (if m_in s' f g p then s' (100 + 6 * p + 3) else 0) := by
  unfold m_lm
  rw [h7]
  have := m_sum_u (P := fun q => if m_in s' f g q then s' (100 + 6 * q + 3) else 0) (R := fun q => if m_in s f g q then s (100 + 6 * q + 3) else 0) (j := p.toNat) (s 7).toNat (by omega) (fun i hi hne => by
    obtain ⟨e1, e2, e3⟩ := ha i (by omega) (by omega) (by omega)
    show (if (s' (100 + 6 * (i : Int)) = 1 ∧ (s' (100 + 6 * (i : Int) + 5) = f ∨ s' (100 + 6 * (i : Int) + 5) = g)) then s' (100 + 6 * (i : Int) + 3) else 0) = _
    rw [e1, e2, e3])
  rw [this, show ((p.toNat : Nat) : Int) = p by omega]
theorem m_szc {s s' : Int → Int} (h7 : s' 7 = s 7) (ha : ∀ i, 0 ≤ i → i < s 7 → s' (100 + 6 * i) = s (100 + 6 * i) ∧ s' (100 + 6 * i + 5) = s (100 + 6 * i + 5)) (f g : Int) : m_sz s' f g = m_sz s f g := by
  unfold m_sz
  rw [h7]
  refine m_sum_c _ (fun i hi => ?_)
  obtain ⟨e1, e2⟩ := ha i (by omega) (by omega)
  show (if (s' (100 + 6 * (i : Int)) = 1 ∧ (s' (100 + 6 * (i : Int) + 5) = f ∨ s' (100 + 6 * (i : Int) + 5) = g)) then (1 : Int) else 0) = _
  rw [e1, e2]
theorem m_lmc {s s' : Int → Int} (h7 : s' 7 = s 7) (ha : ∀ i, 0 ≤ i → i < s 7 → s' (100 + 6 * i) = s (100 + 6 * i) ∧ s' (100 + 6 * i + 3) = s (100 + 6 * i + 3) ∧ s' (100 + 6 * i + 5) = s (100 + 6 * i + 5)) (f g : Int) : m_lm s' f g = m_lm s f g := by
  unfold m_lm
  rw [h7]
  refine m_sum_c _ (fun i hi => ?_)
  obtain ⟨e1, e2, e3⟩ := ha i (by omega) (by omega)
  show (if (s' (100 + 6 * (i : Int)) = 1 ∧ (s' (100 + 6 * (i : Int) + 5) = f ∨ s' (100 + 6 * (i : Int) + 5) = g)) then s' (100 + 6 * (i : Int) + 3) else 0) = _
  rw [e1, e2, e3]
theorem m_sz_nn (s : Int → Int) (f g : Int) : 0 ≤ m_sz s f g := by
  have := (m_sum_b (lo := 0) (hi := 1) (P := fun p => if m_in s f g p then 1 else 0) (s 7).toNat (fun i hi => by
    show 0 ≤ (if m_in s f g i then (1 : Int) else 0) ∧ (if m_in s f g i then (1 : Int) else 0) ≤ 1
    split <;> omega)).1
  unfold m_sz
  omega
theorem m_sz_z (s : Int → Int) (f g : Int) : m_sz s f g = 0 ↔ ∀ p, 0 ≤ p → p < s 7 → ¬ m_in s f g p := by
  unfold m_sz
  rw [m_sum_0 _ (fun i hi => by
    show 0 ≤ (if m_in s f g i then (1 : Int) else 0)
    split <;> omega)]
  constructor
  · intro h p h0 h1 hin
    have := h p.toNat (by omega)
    rw [show ((p.toNat : Nat) : Int) = p by omega] at this
    try dsimp only at this
    rw [if_pos hin] at this
    omega
  · intro h i hi
    exact if_neg (h i (by omega) (by omega))
theorem m_sz_dead (wf : m_wf s) {f : Int} (hf : 0 ≤ f ∧ f < s 8) (hd : ¬ s (460 + 3 * f) = 1) : m_sz s f (-1) = 0 := by
  rw [m_sz_z]
  intro p h0 h1 hin
  obtain ⟨w0, w1, -⟩ := wf
  have a1 := w1 p ⟨h0, h1, hin.1⟩
  have a2 := w0.2.2.1 p h0 h1
  have hc := hin.2
  rcases hc with e | e
  · rw [e] at a1; exact hd a1
  · omega
theorem m_isF_sz (wf : m_wf s) {f : Int} (hf : 0 ≤ f ∧ f < s 8) : s (460 + 3 * f) = 1 ↔ 0 < m_sz s f (-1) := by
  constructor
  · intro h
    have := (wf.2.2.1 f ⟨hf.1, hf.2, h⟩).1
    omega
  · intro h
    apply Decidable.byContradiction
    intro hc
    have := m_sz_dead wf hf hc
    omega
theorem m_lm_dead (wf : m_wf s) {f : Int} (hf : 0 ≤ f ∧ f < s 8) (hd : ¬ s (460 + 3 * f) = 1) : m_lm s f (-1) = 0 := by
  have h := (m_sz_z s f (-1)).mp (m_sz_dead wf hf hd)
  unfold m_lm
  have : m_sum (fun p => if m_in s f (-1) p then s (100 + 6 * p + 3) else 0) (s 7).toNat = m_sum (fun _ => 0) (s 7).toNat := m_sum_c _ (fun i hi => if_neg (h i (by omega) (by omega)))
  rw [this]
  generalize (s 7).toNat = n
  induction n with
  | zero => rfl
  | succ n ih => rw [m_sum_s, ih]; rfl
/-- a family that may be empty is no more -/
def m_lv (s : Int → Int) (f : Int) : Int → Int := if m_sz s f (-1) = 0 then u1 s (460 + 3 * f) 0 else s
def m_die (s : Int → Int) (p : Int) : Int → Int := m_lv (u1 s (100 + 6 * p) 0) (s (100 + 6 * p + 5))
def m_join (s : Int → Int) (p g : Int) : Int → Int := m_lv (u1 s (100 + 6 * p + 5) g) (s (100 + 6 * p + 5))
/-- the reference's scratch of laying a family -/
def pS (a : Nat) (k : Int) : Bool := a == 110 || p216 a k
theorem p216_S {I I' : w_I} (h : w_fr p216 I I') : w_fr pS I I' := w_frm h (fun a k e => by
  unfold pS at e
  cases h : p216 a k
  · rfl
  · rw [h, Bool.or_true] at e; cases e)
theorem s222 (hs : I 110 = s) (wf : m_w0 s) {f : Int} (hf : 0 ≤ f ∧ f < s 8) (k : ∀ I', w_fr pS I I' → I' 110 = m_lv s f → Q none I' J b) : w_C xs xl 222 [.ref 104, w_i f] I J b Q := by
  have w0 := wf.1
  have hb := m_sz_nn s f (-1)
  have hb2 : m_sz s f (-1) ≤ 60 := by
    have := (m_sum_b (lo := 0) (hi := 1) (P := fun p => if m_in s f (-1) p then 1 else 0) (s 7).toNat (fun i hi => by
      show 0 ≤ (if m_in s f (-1) i then (1 : Int) else 0) ∧ (if m_in s f (-1) i then (1 : Int) else 0) ≤ 1
      split <;> omega)).2
    unfold m_sz
    omega
  refine e222 (b222_0 ?_)
  refine s217 hs wf (by omega) (fun I' hfr e1 e2 e3 => ?_)
  have hs1 : I' 110 = s := (w_frA hfr (fun _ => rfl)).trans hs
  refine b222_5 ?_
  try simp only [w_Ug, reduceIte, Nat.reduceEqDiff, Int.reduceEq, eq_self, e1]
  repeat' (first | apply And.intro | intro)
  all_goals (try first | omega | contradiction)
  · rename_i h
    exact k I' (p216_S hfr) (by rw [hs1]; unfold m_lv; rw [if_neg h])
  · rename_i h
    refine k _ (w_frU (p216_S hfr) rfl) ?_
    rw [w_U1, hs1]
    unfold m_lv
    rw [if_pos h]
theorem m_w0_lv (wf : m_w0 s) {f : Int} (hf : 0 ≤ f ∧ f < s 8) : m_w0 (m_lv s f) := by
  obtain ⟨w0, w1, w2, w3, w4⟩ := wf
  unfold m_lv
  split
  · refine ⟨?_, ?_, ?_, ?_, ?_⟩
    · simp (disch := omega) only [u1g, if_neg]; exact w0
    · simp (disch := omega) only [u1g, if_neg]
      intro h h0 h1
      have := w1 h h0 h1
      try simp (disch := omega) only [if_neg]
      exact this
    · simp (disch := omega) only [u1g, if_neg]
      intro h h0 h1
      have := w2 h h0 h1
      try simp (disch := omega) only [if_neg]
      exact this
    · simp (disch := omega) only [u1g, if_neg]
      intro h h0 h1
      have := w3 h h0 h1
      try simp (disch := omega) only [if_neg]
      refine ⟨?_, this.2⟩
      split
      · exact Or.inl rfl
      · exact this.1
    · simp (disch := omega) only [u1g, if_neg]
      intro h h0 h1
      have := w4 h h0 h1
      try simp (disch := omega) only [if_neg]
      exact this
  · exact ⟨w0, w1, w2, w3, w4⟩
theorem m_w0_u0 (wf : m_w0 s) {p : Int} (hp : 0 ≤ p ∧ p < s 7) : m_w0 (u1 s (100 + 6 * p) 0) := by
  obtain ⟨w0, w1, w2, w3, w4⟩ := wf
  refine ⟨?_, ?_, ?_, ?_, ?_⟩
  · simp (disch := omega) only [u1g, if_neg]; exact w0
  · simp (disch := omega) only [u1g, if_neg]
    intro h h0 h1
    have := w1 h h0 h1
    try simp (disch := omega) only [if_neg]
    exact this
  · simp (disch := omega) only [u1g, if_neg]
    intro h h0 h1
    have := w2 h h0 h1
    try simp (disch := omega) only [if_neg]
    refine ⟨?_, this.2⟩
    split
    · exact Or.inl rfl
    · exact this.1
  · simp (disch := omega) only [u1g, if_neg]
    intro h h0 h1
    have := w3 h h0 h1
    try simp (disch := omega) only [if_neg]
    exact this
  · simp (disch := omega) only [u1g, if_neg]
    intro h h0 h1
    have := w4 h h0 h1
    try simp (disch := omega) only [if_neg]
    exact this
end
