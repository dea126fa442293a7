section
theorem w_Ua {I : w_I} {a a' : Nat} {k v : Int} (h : a' ≠ a) : w_U I a k v a' = I a' := by
  unfold w_U
  rw [if_neg h]
theorem w_cpa {I : w_I} {d s a' : Nat} {sp dp n : Int} (h : a' ≠ d) : w_cp I d s sp dp n a' = I a' := by
  unfold w_cp
  rw [if_neg h]
/-- what may have changed -/
def w_fr (p : Nat → Int → Bool) (I I' : w_I) : Prop := ∀ a k, p a k = false → I' a k = I a k
theorem w_frr {p : Nat → Int → Bool} {I : w_I} : w_fr p I I := fun _ _ _ => rfl
theorem w_frt {p : Nat → Int → Bool} {I I' I'' : w_I} (h : w_fr p I I') (g : w_fr p I' I'') : w_fr p I I'' := fun a k e => (g a k e).trans (h a k e)
theorem w_frm {p q : Nat → Int → Bool} {I I' : w_I} (h : w_fr p I I') (g : ∀ a k, q a k = false → p a k = false) : w_fr q I I' := fun a k e => h a k (g a k e)
theorem w_frU {p : Nat → Int → Bool} {I I' : w_I} {a : Nat} {k v : Int} (h : w_fr p I I') (hp : p a k = true) : w_fr p I (w_U I' a k v) := by
  intro a' k' e
  rw [w_Ug]
  split
  · rename_i ha
    split
    · rename_i hk
      subst ha hk
      rw [hp] at e
      cases e
    · exact h a' k' e
  · exact h a' k' e
theorem w_frA {p : Nat → Int → Bool} {I I' : w_I} (h : w_fr p I I') {a : Nat} (ha : ∀ k, p a k = false) : I' a = I a := funext fun k => h a k (ha k)
/-- sums and maxima over 0, 1, .., n - 1 -/
def m_sum (P : Int → Int) : Nat → Int
  | 0 => 0
  | n + 1 => m_sum P n + P n
def m_mx (P : Int → Int) : Nat → Int
  | 0 => 0
  | n + 1 => max (m_mx P n) (P n)
theorem m_sum_s (P : Int → Int) (n : Nat) : m_sum P (n + 1) = m_sum P n + P n := rfl
theorem m_mx_s (P : Int → Int) (n : Nat) : m_mx P (n + 1) = max (m_mx P n) (P n) := rfl
theorem m_sum_c {P R : Int → Int} : ∀ (n : Nat), (∀ i : Nat, i < n → P i = R i) → m_sum P n = m_sum R n
  | 0, _ => rfl
  | n + 1, h => by rw [m_sum_s, m_sum_s, m_sum_c n (fun i hi => h i (by omega)), h n (by omega)]
theorem m_mx_c {P R : Int → Int} : ∀ (n : Nat), (∀ i : Nat, i < n → P i = R i) → m_mx P n = m_mx R n
  | 0, _ => rfl
  | n + 1, h => by rw [m_mx_s, m_mx_s, m_mx_c n (fun i hi => h i (by omega)), h n (by omega)]
theorem m_sum_b {P : Int → Int} {lo hi : Int} : ∀ (n : Nat), (∀ i : Nat, i < n → lo ≤ P i ∧ P i ≤ hi) → lo * n ≤ m_sum P n ∧ m_sum P n ≤ hi * n
  | 0, _ => by simp [m_sum]
  | n + 1, h => by
    have ih := m_sum_b (lo := lo) (hi := hi) n (fun i hi => h i (by omega))
    have hn := h n (by omega)
    rw [m_sum_s]
    have e1 : lo * ((n + 1 : Nat) : Int) = lo * n + lo := by rw [Int.natCast_add, Int.mul_add]; simp
    have e2 : hi * ((n + 1 : Nat) : Int) = hi * n + hi := by rw [Int.natCast_add, Int.mul_add]; simp
    omega
theorem m_mx_b {P : Int → Int} {hi : Int} (h0 : 0 ≤ hi) : ∀ (n : Nat), (∀ i : Nat, i < n → P i ≤ hi) → 0 ≤ m_mx P n ∧ m_mx P n ≤ hi
  | 0, _ => by simp [m_mx]; exact h0
  | n + 1, h => by
    have ih := m_mx_b h0 n (fun i hi => h i (by omega))
    have hn := h n (by omega)
    rw [m_mx_s]
    omega
/-- one place changed -/
theorem m_sum_u {P R : Int → Int} {j : Nat} : ∀ (n : Nat), j < n → (∀ i : Nat, i < n → i ≠ j → P i = R i) → m_sum P n = m_sum R n - R j + P j
  | 0, h, _ => by omega
  | n + 1, h, g => by
    rw [m_sum_s, m_sum_s]
    by_cases hj : j = n
    · subst hj
      rw [m_sum_c j (fun i hi => g i (by omega) (by omega))]
      omega
    · have := m_sum_u n (by omega) (fun i hi hne => g i (by omega) hne)
      have := g n (by omega) (fun e => hj e.symm)
      omega
theorem m_sum_0 {P : Int → Int} : ∀ (n : Nat), (∀ i : Nat, i < n → 0 ≤ P i) → (m_sum P n = 0 ↔ ∀ i : Nat, i < n → P i = 0)
  | 0, _ => ⟨fun _ i hi => by omega, fun _ => rfl⟩
  | n + 1, h => by
    have ih := m_sum_0 n (fun i hi => h i (by omega))
    have hb := (m_sum_b (lo := 0) (hi := m_sum P n) (P := P) n)
    have hn := h n (by omega)
    have h0 : 0 ≤ m_sum P n := by
      clear ih hb hn
      induction n with
      | zero => simp [m_sum]
      | succ n ihn =>
        have := ihn (fun i hi => h i (by omega))
        have := h n (by omega)
        rw [m_sum_s]
        omega
    rw [m_sum_s]
    constructor
    · intro e i hi
      by_cases hin : i = n
      · subst hin; omega
      · exact ih.mp (by omega) i (by omega)
    · intro g
      have := ih.mpr (fun i hi => g i (by omega))
      have := g n (by omega)
      omega
end
