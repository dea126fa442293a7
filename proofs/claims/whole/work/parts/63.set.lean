section
/-! a row put to houses: the state -/
variable {xs : Nat → Int32} {xl : Nat} {I J : w_I} {b : Bool} {Q : Option Value → w_I → w_I → Bool → Prop}
variable {s : Int → Int}
def m_setN (s : Int → Int) (r : Int → Int) (g : Nat → Int) : Nat → Int → Int
  | 0 => s
  | i + 1 => u1 (m_setN s r g i) (460 + 3 * r i + 1) (g i)
theorem m_setN_s {r : Int → Int} {g : Nat → Int} {i : Nat} : m_setN s r g (i + 1) = u1 (m_setN s r g i) (460 + 3 * r i + 1) (g i) := rfl
theorem m_setN_o {r : Int → Int} {g : Nat → Int} {k : Int} : ∀ n : Nat, (∀ i : Nat, i < n → k ≠ 460 + 3 * r i + 1) → m_setN s r g n k = s k
  | 0, _ => rfl
  | n + 1, h => by
    rw [m_setN_s, u1g, if_neg (h n (by omega))]
    exact m_setN_o n (fun i hi => h i (by omega))
theorem m_setN_at {r : Int → Int} {g : Nat → Int} {i : Nat} : ∀ n : Nat, i < n → (∀ j : Nat, i < j → j < n → r i ≠ r j) → m_setN s r g n (460 + 3 * r i + 1) = g i
  | 0, h, _ => by omega
  | n + 1, h, inj => by
    rw [m_setN_s, u1g]
    by_cases e : i = n
    · subst e; rw [if_pos rfl]
    · have := inj n (by omega) (by omega)
      rw [if_neg (by omega)]
      exact m_setN_at n (by omega) (fun j a c => inj j a (by omega))
theorem m_setN_c {r r' : Int → Int} {g g' : Nat → Int} : ∀ n : Nat, (∀ i : Nat, i < n → r i = r' i ∧ g i = g' i) → m_setN s r g n = m_setN s r' g' n
  | 0, _ => rfl
  | n + 1, h => by
    obtain ⟨h1, h2⟩ := h n (by omega)
    rw [m_setN_s, m_setN_s, h1, h2, m_setN_c n (fun i hi => h i (by omega))]
/-- homes alone have changed -/
def m_oh (s E : Int → Int) : Prop := ∀ k, (∀ f, m_isF s f → k ≠ 460 + 3 * f + 1) → E k = s k
theorem m_oh_f (wf : m_wf s) {E : Int → Int} (h : m_oh s E) : E 0 = s 0 ∧ E 1 = s 1 ∧ E 2 = s 2 ∧ E 3 = s 3 ∧ E 4 = s 4 ∧ E 7 = s 7 ∧ E 8 = s 8 ∧ E 9 = s 9 ∧ E 10 = s 10 := by
  refine ⟨?_, ?_, ?_, ?_, ?_, ?_, ?_, ?_, ?_⟩ <;> exact h _ (fun f hf => by have := hf.1; omega)
theorem m_oh_i (wf : m_wf s) {E : Int → Int} (h : m_oh s E) (f : Int) : m_isF E f ↔ m_isF s f := by
  have e8 := (m_oh_f wf h).2.2.2.2.2.2.1
  unfold m_isF
  rw [e8]
  constructor
  · rintro ⟨a, c, d⟩
    rw [h _ (fun f' hf' => by omega)] at d
    exact ⟨a, c, d⟩
  · rintro ⟨a, c, d⟩
    rw [h _ (fun f' hf' => by omega)]
    exact ⟨a, c, d⟩
theorem m_oh_z (wf : m_wf s) {E : Int → Int} (h : m_oh s E) (f g : Int) : m_sz E f g = m_sz s f g ∧ m_lm E f g = m_lm s f g := by
  have w0 := wf.1.1
  have e7 := (m_oh_f wf h).2.2.2.2.2.1
  constructor
  · exact m_szc e7 (fun i h0 h1 => ⟨h _ (fun f hf => by have := hf.1; omega), h _ (fun f hf => by have := hf.1; omega)⟩) f g
  · exact m_lmc e7 (fun i h0 h1 => ⟨h _ (fun f hf => by have := hf.1; omega), h _ (fun f hf => by have := hf.1; omega), h _ (fun f hf => by have := hf.1; omega)⟩) f g
theorem m_oh_ag (wf : m_wf s) {E : Int → Int} (h : m_oh s E) (f g t by' : Int) : m_ag E f g t by' = m_ag s f g t by' := by
  have w0 := wf.1.1
  obtain ⟨-, -, -, -, -, e7, -, e9, -⟩ := m_oh_f wf h
  have ez := (m_oh_z wf h f g).1
  have pa : ∀ i, 0 ≤ i → i < s 7 → m_pa E i t = m_pa s i t := fun i h0 h1 => by
    unfold m_pa
    rw [e9, h (100 + 6 * i + 4) (fun f hf => by have := hf.1; omega)]
    by_cases c : t = 0
    · simp only [if_pos c]; rw [h _ (fun f hf => by have := hf.1; omega)]
    · simp only [if_neg c]; rw [h _ (fun f hf => by have := hf.1; omega)]
  have mi : ∀ i, 0 ≤ i → i < s 7 → (m_in E f g i ↔ m_in s f g i) := fun i h0 h1 => by
    unfold m_in
    rw [h (100 + 6 * i) (fun f hf => by have := hf.1; omega), h (100 + 6 * i + 5) (fun f hf => by have := hf.1; omega)]
  have e1 : m_mo E f g t = m_mo s f g t := by
    unfold m_mo
    rw [e7]
    refine m_mx_c _ (fun i hi => ?_)
    try dsimp only
    simp only [mi i (by omega) (by omega), pa i (by omega) (by omega)]
  have e2 : m_sm E f g t = m_sm s f g t := by
    unfold m_sm
    rw [e7]
    refine m_sum_c _ (fun i hi => ?_)
    try dsimp only
    simp only [mi i (by omega) (by omega), pa i (by omega) (by omega)]
  unfold m_ag
  rw [ez, e1, e2]
theorem m_wf_oh (wf : m_wf s) {E : Int → Int} (h : m_oh s E) (hb : ∀ f, m_isF s f → E (460 + 3 * f + 1) = -2 ∨ (0 ≤ E (460 + 3 * f + 1) ∧ E (460 + 3 * f + 1) < s 0)) (hu : ∀ f g, m_isF s f → m_isF s g → 0 ≤ E (460 + 3 * f + 1) → E (460 + 3 * f + 1) = E (460 + 3 * g + 1) → f = g) : m_wf E := by
  obtain ⟨w0, w1, w2, w3, w4⟩ := wf.1
  obtain ⟨e0, e1, e2, e3, e4, e7, e8, e9, e10⟩ := m_oh_f wf h
  have hi := m_oh_i wf h
  refine ⟨⟨?_, ?_, ?_, ?_, ?_⟩, ?_, ?_, ?_⟩
  · rw [e0, e1, e2, e3, e4, e7, e8, e9, e10]; exact w0
  · intro k h0 h1
    rw [e0] at h1
    rw [h _ (fun f hf => by have := hf.1; omega), h _ (fun f hf => by have := hf.1; omega)]
    exact w1 k h0 h1
  · intro k h0 h1
    rw [e7] at h1
    rw [h (100 + 6 * k) (fun f hf => by have := hf.1; omega), h (100 + 6 * k + 1) (fun f hf => by have := hf.1; omega), h (100 + 6 * k + 2) (fun f hf => by have := hf.1; omega), h (100 + 6 * k + 3) (fun f hf => by have := hf.1; omega), h (100 + 6 * k + 4) (fun f hf => by have := hf.1; omega), h (100 + 6 * k + 5) (fun f hf => by have := hf.1; omega), e8, e9]
    exact w2 k h0 h1
  · intro k h0 h1
    rw [e8] at h1
    have w3 := w3 k h0 h1
    rw [h (460 + 3 * k) (fun f hf => by omega), h (460 + 3 * k + 2) (fun f hf => by omega), e0]
    refine ⟨w3.1, ?_, w3.2.2⟩
    by_cases c : m_isF s k
    · have := hb k c
      omega
    · rw [h (460 + 3 * k + 1) (fun f hf x => c (by
        have : f = k := by omega
        rw [← this]; exact hf))]
      exact w3.2.1
  · intro k h0 h1
    rw [e10] at h1
    have w4 := w4 k h0 h1
    rw [h (550 + 3 * k) (fun f hf => by have := hf.2.1; omega), h (550 + 3 * k + 1) (fun f hf => by have := hf.2.1; omega), h (550 + 3 * k + 2) (fun f hf => by have := hf.2.1; omega), e8, e0]
    exact w4
  · intro p hp
    have h1 := hp.1
    have h2 := hp.2.1
    have h3 := hp.2.2
    rw [e7] at h2
    rw [h _ (fun f hf => by have := hf.1; omega)] at h3
    have wp := w2 p h1 h2
    rw [h (100 + 6 * p + 5) (fun f hf => by have := hf.1; omega), h _ (fun f hf => by omega)]
    exact wf.2.1 p ⟨h1, h2, h3⟩
  · intro f hf
    rw [(m_oh_z wf h f (-1)).1]
    exact wf.2.2.1 f ((hi f).mp hf)
  · intro f g hf hg
    exact hu f g ((hi f).mp hf) ((hi g).mp hg)
theorem c_rf_oh {E : Int → Int} {I' : w_I} (rf : c_rf 20 I s) (wf : m_wf s) (h : m_oh s E) (hb : ∀ f, m_isF s f → E (460 + 3 * f + 1) = -2 ∨ (0 ≤ E (460 + 3 * f + 1) ∧ E (460 + 3 * f + 1) < s 0))
    (hfr : ∀ a, 20 ≤ a → a ≤ 33 → a ≠ 28 → a ≠ 30 → I' a = I a) (h28 : ∀ f, (m_isF s f → E (460 + 3 * f + 1) = -2 → I' 28 f = -1) ∧ (m_isF s f → 0 ≤ E (460 + 3 * f + 1) → I' 28 f = E (460 + 3 * f + 1)) ∧ (¬ m_isF s f → 0 ≤ f → f < s 8 → I' 28 f = I 28 f))
    (h30 : ∀ x, 0 ≤ x → x < 24 → (I' 30 x = -1 ∧ ∀ f, m_isF s f → E (460 + 3 * f + 1) ≠ x) ∨ (m_isF s (I' 30 x) ∧ E (460 + 3 * I' 30 x + 1) = x)) : c_rf 20 I' E := by
  obtain ⟨w0, w1, w2, w3, w4⟩ := wf.1
  obtain ⟨e0, e1, e2, e3, e4, e7, e8, e9, e10⟩ := m_oh_f wf h
  have hi := m_oh_i wf h
  simp only [c_rf, Nat.reduceAdd] at rf
  obtain ⟨r13, r14, r15, r16, rp, rff, rh, rm⟩ := rf
  simp only [c_rf, Nat.reduceAdd]
  rw [hfr 20 (by decide) (by decide) (by decide) (by decide), hfr 21 (by decide) (by decide) (by decide) (by decide), hfr 22 (by decide) (by decide) (by decide) (by decide), hfr 23 (by decide) (by decide) (by decide) (by decide), hfr 24 (by decide) (by decide) (by decide) (by decide), hfr 25 (by decide) (by decide) (by decide) (by decide), hfr 26 (by decide) (by decide) (by decide) (by decide), hfr 27 (by decide) (by decide) (by decide) (by decide), hfr 29 (by decide) (by decide) (by decide) (by decide), hfr 31 (by decide) (by decide) (by decide) (by decide), hfr 32 (by decide) (by decide) (by decide) (by decide), hfr 33 (by decide) (by decide) (by decide) (by decide)]
  rw [e7, e8, e9, e10]
  refine ⟨r13, r14, r15, r16, ?_, ?_, ?_, ?_⟩
  · intro k h0 h1
    rw [h (100 + 6 * k) (fun f hf => by have := hf.1; omega), h (100 + 6 * k + 1) (fun f hf => by have := hf.1; omega), h (100 + 6 * k + 2) (fun f hf => by have := hf.1; omega), h (100 + 6 * k + 3) (fun f hf => by have := hf.1; omega), h (100 + 6 * k + 4) (fun f hf => by have := hf.1; omega), h (100 + 6 * k + 5) (fun f hf => by have := hf.1; omega)]
    exact rp k h0 h1
  · intro f h0 h1
    have rg := rff f h0 h1
    obtain ⟨z1, z2⟩ := m_oh_z wf h f (-1)
    rw [z1, z2, h (460 + 3 * f) (fun g hg => by omega), h (460 + 3 * f + 2) (fun g hg => by omega)]
    refine ⟨rg.1, rg.2.1, fun a c => ?_, fun a c => ?_, fun a => ?_, rg.2.2.2.2.2⟩
    · exact (h28 f).2.1 ⟨h0, h1, a⟩ c
    · have := hb f ⟨h0, h1, a⟩
      exact (h28 f).1 ⟨h0, h1, a⟩ (by omega)
    · rw [(h28 f).2.2 (fun x => a x.2.2) h0 h1]
      exact rg.2.2.2.2.1 a
  · intro x h0 h1
    rcases h30 x h0 h1 with ⟨a, c⟩ | ⟨a, c⟩
    · refine ⟨fun _ f hf => c f ((hi f).mp hf), fun y => absurd a y⟩
    · refine ⟨fun y => ?_, fun _ => ⟨(hi _).mpr a, c⟩⟩
      have := a.1
      omega
  · intro k h0 h1
    rw [h (550 + 3 * k) (fun f hf => by have := hf.2.1; omega), h (550 + 3 * k + 1) (fun f hf => by have := hf.2.1; omega), h (550 + 3 * k + 2) (fun f hf => by have := hf.2.1; omega)]
    exact rm k h0 h1
/-- the row put: the state behind it -/
theorem m_set_oh {c n : Int} {r : Int → Int} {rk : Int → Int} {g : Nat → Int} (hc : m_cm s c) (hr : r_ok n r (m_S s c) rk) : m_oh s (m_setN s r g n.toNat) := by
  intro k hk
  refine m_setN_o _ (fun i hi => ?_)
  have h0 := hr.1
  rcases hr.2.1 i (by omega) (by omega) with x | x
  · exact hk _ x.1
  · rcases hc with y | y
    · exact absurd y x.2
    · rw [x.1]; exact hk _ y.1
theorem r_ok_ne {n : Int} {r : Int → Int} {S : Int → Prop} {rk : Int → Int} (hr : r_ok n r S rk) {i j : Int} (h0 : 0 ≤ i) (h1 : i < j) (h2 : j < n) : r i ≠ r j := fun e => by
  have := hr.2.2.2 i j h0 h1 h2
  rw [e] at this
  omega
theorem m_set_at {n : Int} {r : Int → Int} {S : Int → Prop} {rk : Int → Int} {g : Nat → Int} (hr : r_ok n r S rk) {i : Nat} (hi : i < n) : m_setN s r g n.toNat (460 + 3 * r i + 1) = g i :=
  m_setN_at _ (by omega) (fun j a c => r_ok_ne hr (by omega) (by omega) (by omega))
/-- who is not of the row lives nowhere -/
theorem m_set_no {c n : Int} {r : Int → Int} {rk : Int → Int} {g : Nat → Int} (wf : m_wf s) (hc : m_cm s c) (hr : r_ok n r (m_S s c) rk) {f : Int} (hf : m_isF s f) : (∃ i : Nat, i < n ∧ r i = f ∧ m_setN s r g n.toNat (460 + 3 * f + 1) = g i) ∨ ((∀ i : Int, 0 ≤ i → i < n → r i ≠ f) ∧ m_setN s r g n.toNat (460 + 3 * f + 1) = -2) := by
  have h0 := hr.1
  have hf1 := hf.1
  have hf2 := hf.2.1
  by_cases hS : m_S s c f
  · obtain ⟨i, i0, i1, i2⟩ := hr.2.2.1 f hS
    have := m_set_at (s := s) (g := g) hr (i := i.toNat) (by omega)
    rw [show ((i.toNat : Nat) : Int) = i by omega, i2] at this
    exact Or.inl ⟨i.toNat, by omega, by rw [show ((i.toNat : Nat) : Int) = i by omega]; exact i2, this⟩
  · have no : ∀ i : Int, 0 ≤ i → i < n → r i ≠ f := fun i x y e => hS (e ▸ hr.2.1 i x y)
    refine Or.inr ⟨no, ?_⟩
    rw [m_setN_o _ (fun i hi e => no i (by omega) (by omega) (by omega))]
    have w3 := wf.1.2.2.2.1 f hf1 hf2
    have : ¬ 0 ≤ s (460 + 3 * f + 1) := fun x => hS (Or.inl ⟨hf, x⟩)
    omega
/-- places that go up -/
abbrev g_up (g : Nat → Int) (n H : Int) : Prop := (∀ i : Nat, i < n → 0 ≤ g i ∧ g i < H) ∧ ∀ i j : Nat, i < j → j < n → g i < g j
theorem m_wf_set {c n : Int} {r : Int → Int} {rk : Int → Int} {g : Nat → Int} (wf : m_wf s) (hc : m_cm s c) (hr : r_ok n r (m_S s c) rk) (hg : g_up g n (s 0)) : m_wf (m_setN s r g n.toNat) := by
  have no := fun f hf => m_set_no (g := g) wf hc hr (f := f) hf
  refine m_wf_oh wf (m_set_oh hc hr) (fun f hf => ?_) (fun f f' hf hf' x e => ?_)
  · rcases no f hf with ⟨i, i1, i2, i3⟩ | ⟨-, i3⟩
    · rw [i3]
      exact Or.inr (hg.1 i i1)
    · exact Or.inl i3
  · rcases no f hf with ⟨i, i1, i2, i3⟩ | ⟨-, i3⟩
    · rcases no f' hf' with ⟨j, j1, j2, j3⟩ | ⟨-, j3⟩
      · rw [i3, j3] at e
        by_cases c1 : i < j
        · have := hg.2 i j c1 j1; omega
        · by_cases c2 : j < i
          · have := hg.2 j i c2 i1; omega
          · have : i = j := by omega
            rw [← i2, ← j2, this]
      · omega
    · omega
theorem c_rf_set {c n : Int} {r : Int → Int} {rk : Int → Int} {g : Nat → Int} {I' : w_I} (rf : c_rf 20 I s) (wf : m_wf s) (hc : m_cm s c) (hr : r_ok n r (m_S s c) rk) (hg : g_up g n (s 0)) (hfr : ∀ a, 20 ≤ a → a ≤ 33 → a ≠ 28 → a ≠ 30 → I' a = I a)
    (h28 : ∀ i : Nat, i < n → I' 28 (r i) = g i) (h28' : ∀ f, (∀ i : Int, 0 ≤ i → i < n → r i ≠ f) → I' 28 f = I 28 f) (h30 : ∀ i : Nat, i < n → I' 30 (g i) = r i) (h30' : ∀ x, 0 ≤ x → x < 24 → (∀ i : Nat, i < n → g i ≠ x) → I' 30 x = -1) : c_rf 20 I' (m_setN s r g n.toNat) := by
  have no := fun f hf => m_set_no (g := g) wf hc hr (f := f) hf
  have inR : ∀ i : Int, 0 ≤ i → i < n → m_isF s (r i) := fun i x y => by
    rcases hr.2.1 i x y with z | z
    · exact z.1
    · rcases hc with u | u
      · exact absurd u z.2
      · rw [z.1]; exact u.1
  refine c_rf_oh rf wf (m_set_oh hc hr) (fun f hf => ?_) hfr (fun f => ⟨fun hf e => ?_, fun hf e => ?_, fun hf h0 h1 => ?_⟩) (fun x h0 h1 => ?_)
  · rcases no f hf with ⟨i, i1, i2, i3⟩ | ⟨-, i3⟩
    · rw [i3]
      exact Or.inr (hg.1 i i1)
    · exact Or.inl i3
  · rcases no f hf with ⟨i, i1, i2, i3⟩ | ⟨i2, i3⟩
    · have := hg.1 i i1
      omega
    · rw [h28' f i2]
      have ch := c_home rf wf hf
      rcases ch with z | z
      · exact z.2
      · obtain ⟨i, i0, i1, i4⟩ := hr.2.2.1 f (Or.inl ⟨hf, z.1⟩)
        exact absurd i4 (i2 i i0 i1)
  · rcases no f hf with ⟨i, i1, i2, i3⟩ | ⟨i2, i3⟩
    · rw [i3, ← i2]; exact h28 i i1
    · omega
  · refine h28' f (fun i a c' e => ?_)
    rw [← e] at hf
    exact hf (inR i a c')
  · by_cases cx : ∃ i : Nat, i < n ∧ g i = x
    · obtain ⟨i, i1, i2⟩ := cx
      right
      have e := h30 i i1
      rw [i2] at e
      rw [e]
      exact ⟨inR i (by omega) i1, by rw [m_set_at hr i1]; exact i2⟩
    · left
      refine ⟨h30' x h0 h1 (fun i hi e => cx ⟨i, hi, e⟩), fun f hf e => ?_⟩
      rcases no f hf with ⟨i, i1, i2, i3⟩ | ⟨i2, i3⟩
      · exact cx ⟨i, i1, by rw [← i3]; exact e⟩
      · omega
end
