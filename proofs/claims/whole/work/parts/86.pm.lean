section
/-! part: who lives on a top, in which order; levels -/
variable {xs : Nat → Int32} {xl : Nat} {I J : w_I} {b : Bool} {Q : Option Value → w_I → w_I → Bool → Prop}
variable {s : Int → Int}
theorem m_sum_up {P : Int → Int} (h : ∀ i : Int, 0 ≤ P i) (a : Nat) : ∀ d : Nat, m_sum P a ≤ m_sum P (a + d)
  | 0 => Int.le_refl _
  | d + 1 => by
    have := m_sum_up h a d
    have := h ((a + d : Nat) : Int)
    rw [show a + (d + 1) = (a + d) + 1 by omega, m_sum_s]
    omega
theorem m_sum_up' {P : Int → Int} (h : ∀ i : Int, 0 ≤ P i) {a c : Nat} (hc : a ≤ c) : m_sum P a ≤ m_sum P c := by
  have := m_sum_up h a (c - a)
  rw [show a + (c - a) = c by omega] at this
  exact this
abbrev a_mb (s : Int → Int) (h : Int) : Prop := s (20 + h) ≠ 0 ∧ 0 ≤ m_dw s h
def a_ri (s : Int → Int) (h : Int) : Int := m_sum (fun h => if a_mb s h then 1 else 0) h.toNat
def a_lv (s : Int → Int) (sd h : Int) : Int := m_sum (fun h => if s (20 + h) = sd then 1 else 0) h.toNat
theorem a_ri_s {h : Int} (hh : 0 ≤ h) : a_ri s (h + 1) = a_ri s h + if a_mb s h then 1 else 0 := by
  unfold a_ri
  rw [show (h + 1).toNat = h.toNat + 1 by omega, m_sum_s, show ((h.toNat : Nat) : Int) = h by omega]
theorem a_lv_s {sd h : Int} (hh : 0 ≤ h) : a_lv s sd (h + 1) = a_lv s sd h + if s (20 + h) = sd then 1 else 0 := by
  unfold a_lv
  rw [show (h + 1).toNat = h.toNat + 1 by omega, m_sum_s, show ((h.toNat : Nat) : Int) = h by omega]
theorem a_ri_up {a c : Int} (h : a ≤ c) : a_ri s a ≤ a_ri s c := m_sum_up' (fun i => by split <;> decide) (by omega)
theorem a_lv_up {sd a c : Int} (h : a ≤ c) : a_lv s sd a ≤ a_lv s sd c := m_sum_up' (fun i => by split <;> decide) (by omega)
theorem a_ri_b {h : Int} (hh : 0 ≤ h) : 0 ≤ a_ri s h ∧ a_ri s h ≤ h := by
  have := m_sum_b (P := fun h => if a_mb s h then 1 else 0) (lo := 0) (hi := 1) h.toNat (fun i _ => by split <;> decide)
  unfold a_ri
  omega
theorem a_lv_b {sd h : Int} (hh : 0 ≤ h) : 0 ≤ a_lv s sd h ∧ a_lv s sd h ≤ h := by
  have := m_sum_b (P := fun h => if s (20 + h) = sd then 1 else 0) (lo := 0) (hi := 1) h.toNat (fun i _ => by split <;> decide)
  unfold a_lv
  omega
theorem a_lv3 {h : Int} (hh : 0 ≤ h) : a_lv s 1 h + a_lv s 2 h ≤ h := by
  have e : ∀ n : Nat, m_sum (fun h => if s (20 + h) = 1 then 1 else 0) n + m_sum (fun h => if s (20 + h) = 2 then 1 else 0) n ≤ n := by
    intro n
    induction n with
    | zero => show (0 : Int) + 0 ≤ ((0 : Nat) : Int); omega
    | succ n ih =>
      rw [m_sum_s, m_sum_s]
      by_cases c : s (20 + (n : Int)) = 1
      · rw [if_pos c, if_neg (by omega)]; omega
      · rw [if_neg c]
        split <;> omega
  have := e h.toNat
  unfold a_lv
  omega
theorem a_ri_lt {a c : Int} (ha : 0 ≤ a) (h : a < c) (hm : a_mb s a) : a_ri s a < a_ri s c := by
  have := a_ri_up (s := s) (a := a + 1) (c := c) (by omega)
  rw [a_ri_s ha, if_pos hm] at this
  omega
theorem a_lv_lt {sd a c : Int} (ha : 0 ≤ a) (h : a < c) (hm : s (20 + a) = sd) : a_lv s sd a < a_lv s sd c := by
  have := a_lv_up (s := s) (sd := sd) (a := a + 1) (c := c) (by omega)
  rw [a_lv_s ha, if_pos hm] at this
  omega
theorem a_ri_ex {j : Int} (hj : 0 ≤ j) : ∀ H : Nat, j < a_ri s H → ∃ h : Int, 0 ≤ h ∧ h < H ∧ a_mb s h ∧ a_ri s h = j
  | 0, x => by
    have e : a_ri s ((0 : Nat) : Int) = 0 := rfl
    omega
  | H + 1, x => by
    rw [show ((H + 1 : Nat) : Int) = (H : Int) + 1 by omega, a_ri_s (by omega)] at x
    by_cases c : j < a_ri s H
    · obtain ⟨h, h0, h1, h2, h3⟩ := a_ri_ex hj H c
      exact ⟨h, h0, by omega, h2, h3⟩
    · by_cases d : a_mb s H
      · rw [if_pos d] at x
        exact ⟨H, by omega, by omega, d, by omega⟩
      · rw [if_neg d] at x
        omega
theorem a_lv_ex {sd j : Int} (hj : 0 ≤ j) : ∀ H : Nat, j < a_lv s sd H → ∃ h : Int, 0 ≤ h ∧ h < H ∧ s (20 + h) = sd ∧ a_lv s sd h = j
  | 0, x => by
    have e : a_lv s sd ((0 : Nat) : Int) = 0 := rfl
    omega
  | H + 1, x => by
    rw [show ((H + 1 : Nat) : Int) = (H : Int) + 1 by omega, a_lv_s (by omega)] at x
    by_cases c : j < a_lv s sd H
    · obtain ⟨h, h0, h1, h2, h3⟩ := a_lv_ex hj H c
      exact ⟨h, h0, by omega, h2, h3⟩
    · by_cases d : s (20 + (H : Int)) = sd
      · rw [if_pos d] at x
        exact ⟨H, by omega, by omega, d, by omega⟩
      · rw [if_neg d] at x
        omega
/-- the order: by key, then by house -/
def a_rk (s : Int → Int) (h : Int) : Int := m_kf s (s 1) (m_dw s h) * 100 + h
def a_S (s : Int → Int) (h : Int) : Prop := (0 ≤ h ∧ h < s 0) ∧ a_mb s h
theorem a_rk_inj (w : m_w0 s) : ∀ f g, a_S s f → a_S s g → a_rk s f = a_rk s g → f = g := by
  intro f g hf hg e
  have w0 := w.1
  have h1 := hf.1
  have h2 := hg.1
  unfold a_rk at e
  omega
def a_ix (s o : Int → Int) (q : Int) : Int := a_ri s (o q)
def a_sv (s o : Int → Int) (sd q : Int) : Int := if s (20 + o q) = sd then a_lv s sd (o q) else -1
theorem a_ix_ok {o : Int → Int} {M : Nat} (hM : (M : Int) = a_ri s (s 0)) (hr : r_ok (a_ri s (s 0)) o (a_S s) (a_rk s)) :
    (∀ q : Nat, q < M → 0 ≤ a_ix s o q ∧ a_ix s o q < M) ∧ (∀ j : Nat, j < M → ∃ q : Nat, q < M ∧ a_ix s o q = j) ∧ (∀ q q' : Nat, q < M → q' < M → a_ix s o q = a_ix s o q' → q = q') := by
  obtain ⟨r0, r1, r2, r3⟩ := hr
  have one : ∀ q q' : Nat, q < M → q' < M → o q = o q' → q = q' := by
    intro q q' h h' e
    apply Decidable.byContradiction
    intro x
    by_cases c : q < q'
    · have := r3 q q' (by omega) (by omega) (by omega)
      rw [e] at this
      omega
    · have := r3 q' q (by omega) (by omega) (by omega)
      rw [e] at this
      omega
  refine ⟨fun q hq => ?_, fun j hj => ?_, fun q q' hq hq' e => ?_⟩
  · have z := r1 q (by omega) (by omega)
    have := a_ri_b (s := s) (h := o q) z.1.1
    have := a_ri_lt z.1.1 z.1.2 z.2
    unfold a_ix
    omega
  · by_cases c : 0 ≤ s 0
    · obtain ⟨h, h0, h1, h2, h3⟩ := a_ri_ex (s := s) (j := j) (by omega) (s 0).toNat (by rw [show (((s 0).toNat : Nat) : Int) = s 0 by omega]; omega)
      obtain ⟨q, q0, q1, q2⟩ := r2 h ⟨⟨h0, by omega⟩, h2⟩
      refine ⟨q.toNat, by omega, ?_⟩
      unfold a_ix
      rw [show ((q.toNat : Nat) : Int) = q by omega, q2, h3]
    · have e : a_ri s (s 0) = 0 := by
        unfold a_ri
        rw [show (s 0).toNat = 0 by omega]
        rfl
      omega
  · refine one q q' hq hq' ?_
    have z := r1 q (by omega) (by omega)
    have z' := r1 q' (by omega) (by omega)
    unfold a_ix at e
    by_cases c : o q < o q'
    · have := a_ri_lt z.1.1 c z.2
      omega
    · by_cases c' : o q' < o q
      · have := a_ri_lt z'.1.1 c' z'.2
        omega
      · omega
theorem a_sv_b {o : Int → Int} {sd q : Int} (h : a_S s (o q)) : -1 ≤ a_sv s o sd q ∧ a_sv s o sd q < a_lv s sd (s 0) := by
  unfold a_sv
  have := a_lv_b (s := s) (sd := sd) (h := s 0) (by have := h.1; omega)
  split
  · rename_i c
    have := a_lv_lt h.1.1 h.1.2 c
    have := a_lv_b (s := s) (sd := sd) (h := o q) h.1.1
    omega
  · omega
/-- the answer's parts over the row o -/
def a_pt (s o : Int → Int) (best sg : Int) : Prop := a_res (a_lv s 1 (s 0)) (a_lv s 2 (s 0)) (a_sv s o 1) (a_sv s o 2) (a_ix s o) (a_ri s (s 0)).toNat best sg
end
