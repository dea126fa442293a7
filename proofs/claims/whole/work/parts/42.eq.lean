section
/-! formulas: the class's code against the reference's -/
theorem g_ev_s {c vars : Int → Int} {n : Nat} {k : Int} {st : List Int} {fl : Bool} : g_ev c vars (n + 1) k st fl = (if c k < 10000 then g_ev c vars n (k + 1) (c k :: st) fl else if c k < 20000 then g_ev c vars n (k + 1) (vars (c k - 10000) :: st) fl else if c k = 20036 then (match st with
      | x :: r => g_ev c vars n (k + 1) (w_w (1 - x) :: r) fl
      | [] => ([], fl)) else (match st with
    | y :: x :: r => if c k ≤ 20009 then (if c k = 20009 ∧ y = 0 then g_ev c vars n (k + 1) (0 :: r) true else g_ev c vars n (k + 1) (f_bin (c k) x y :: r) fl) else g_ev c vars n (k + 1) ((if g_dec (c k) x y fl then 1 else 0) :: r) false
    | _ => (st, fl))) := rfl
theorem f_ev_s {c vars : Int → Int} {n : Nat} {k : Int} {st : List Int} : f_ev c vars (n + 1) k st = (if c k < 10000 then f_ev c vars n (k + 1) (c k :: st) else if c k < 20000 then f_ev c vars n (k + 1) (vars (c k - 10000) :: st) else (match st with
    | y :: x :: r => if c k = 20009 ∧ y = 0 then none else f_ev c vars n (k + 1) (f_bin (c k) x y :: r)
    | _ => none)) := rfl
theorem f_ev_or {c vars : Int → Int} : ∀ (n : Nat) (k : Int) (st : List Int), f_ok c n k st.length → f_ev c vars n k st = none ∨ ∃ v, f_ev c vars n k st = some [v]
  | 0, k, st, h => by
    have h : st.length = 1 := h
    match st, h with
    | [v], _ => exact Or.inr ⟨v, rfl⟩
  | n + 1, k, st, h => by
    unfold f_ok at h
    unfold f_ev
    rcases h with ⟨h0, h1, h2, h3⟩ | ⟨h0, h1, h2, h3⟩ | ⟨h0, h1, h2, h3⟩
    · rw [if_pos h1]
      exact f_ev_or n (k + 1) (c k :: st) (by simpa using h3)
    · rw [if_neg (by omega), if_pos (by omega)]
      exact f_ev_or n (k + 1) (vars (c k - 10000) :: st) (by simpa using h3)
    · rw [if_neg (by omega), if_neg (by omega)]
      match st, h2 with
      | y :: x :: r, _ =>
        dsimp only
        by_cases hc : c k = 20009 ∧ y = 0
        · rw [if_pos hc]; exact Or.inl rfl
        · rw [if_neg hc]
          exact f_ev_or n (k + 1) (f_bin (c k) x y :: r) (by simpa using h3)
/-- behind a division by 0 -/
theorem g_seg0 {c mc vars : Int → Int} {m : Nat} {st0 : List Int} : ∀ (n : Nat) (k j : Int) (loc : List Int), (∀ i, 0 ≤ i → i < (n : Int) → c (k + i) = mc (j + i)) → f_ok mc n j loc.length → ∃ z, g_ev c vars (n + m) k (loc ++ st0) true = g_ev c vars m (k + n) (z :: st0) true
  | 0, k, j, loc, hc, h => by
    have h : loc.length = 1 := h
    match loc, h with
    | [v], _ => exact ⟨v, by rw [Nat.zero_add, show k + ((0 : Nat) : Int) = k by omega]; rfl⟩
  | n + 1, k, j, loc, hc, h => by
    have h0 := hc 0 (by omega) (by omega)
    rw [Int.add_zero, Int.add_zero] at h0
    have hc' : ∀ i, 0 ≤ i → i < (n : Int) → c (k + 1 + i) = mc (j + 1 + i) := fun i a b => by
      have := hc (1 + i) (by omega) (by omega)
      rw [show k + 1 + i = k + (1 + i) by omega, show j + 1 + i = j + (1 + i) by omega]
      exact this
    unfold f_ok at h
    rw [show n + 1 + m = (n + m) + 1 by omega, show k + ((n + 1 : Nat) : Int) = k + 1 + n by omega]
    rw [g_ev_s, h0]
    rcases h with ⟨b0, b1, b2, b3⟩ | ⟨b0, b1, b2, b3⟩ | ⟨b0, b1, b2, b3⟩
    · rw [if_pos b1]
      exact g_seg0 n (k + 1) (j + 1) (mc j :: loc) hc' (by simpa using b3)
    · rw [if_neg (by omega), if_pos (by omega)]
      exact g_seg0 n (k + 1) (j + 1) (vars (mc j - 10000) :: loc) hc' (by simpa using b3)
    · rw [if_neg (by omega), if_neg (by omega), if_neg (by omega)]
      match loc, b2 with
      | y :: x :: r, _ =>
        dsimp only [List.cons_append]
        rw [if_pos (by omega)]
        by_cases hz : mc j = 20009 ∧ y = 0
        · rw [if_pos hz]
          exact g_seg0 n (k + 1) (j + 1) (0 :: r) hc' (by simpa using b3)
        · rw [if_neg hz]
          exact g_seg0 n (k + 1) (j + 1) (f_bin (mc j) x y :: r) hc' (by simpa using b3)
/-- a formula's piece of the class's code -/
theorem g_seg {c mc vars : Int → Int} {m : Nat} {st0 : List Int} : ∀ (n : Nat) (k j : Int) (loc : List Int), (∀ i, 0 ≤ i → i < (n : Int) → c (k + i) = mc (j + i)) → f_ok mc n j loc.length →
    (∀ v, f_ev mc vars n j loc = some [v] → ∀ fl, g_ev c vars (n + m) k (loc ++ st0) fl = g_ev c vars m (k + n) (v :: st0) fl) ∧ (f_ev mc vars n j loc = none → ∀ fl, ∃ z, g_ev c vars (n + m) k (loc ++ st0) fl = g_ev c vars m (k + n) (z :: st0) true)
  | 0, k, j, loc, hc, h => by
    have h : loc.length = 1 := h
    match loc, h with
    | [v], _ =>
      refine ⟨fun v' hv fl => ?_, fun hv => (by cases hv)⟩
      have : v = v' := by
        have := Option.some.inj hv
        exact (List.cons.inj this).1
      subst this
      rw [Nat.zero_add, show k + ((0 : Nat) : Int) = k by omega]
      rfl
  | n + 1, k, j, loc, hc, h => by
    have h0 := hc 0 (by omega) (by omega)
    rw [Int.add_zero, Int.add_zero] at h0
    have hc' : ∀ i, 0 ≤ i → i < (n : Int) → c (k + 1 + i) = mc (j + 1 + i) := fun i a b => by
      have := hc (1 + i) (by omega) (by omega)
      rw [show k + 1 + i = k + (1 + i) by omega, show j + 1 + i = j + (1 + i) by omega]
      exact this
    unfold f_ok at h
    rw [show n + 1 + m = (n + m) + 1 by omega, show k + ((n + 1 : Nat) : Int) = k + 1 + n by omega]
    simp only [g_ev_s, f_ev_s, h0]
    rcases h with ⟨b0, b1, b2, b3⟩ | ⟨b0, b1, b2, b3⟩ | ⟨b0, b1, b2, b3⟩
    · simp only [if_pos b1]
      exact g_seg n (k + 1) (j + 1) (mc j :: loc) hc' (by simpa using b3)
    · simp only [if_neg (show ¬ mc j < 10000 by omega), if_pos (show mc j < 20000 by omega)]
      exact g_seg n (k + 1) (j + 1) (vars (mc j - 10000) :: loc) hc' (by simpa using b3)
    · simp only [if_neg (show ¬ mc j < 10000 by omega), if_neg (show ¬ mc j < 20000 by omega), if_neg (show ¬ mc j = 20036 by omega)]
      match loc, b2 with
      | y :: x :: r, _ =>
        dsimp only [List.cons_append]
        simp only [if_pos (show mc j ≤ 20009 by omega)]
        by_cases hz : mc j = 20009 ∧ y = 0
        · simp only [if_pos hz]
          refine ⟨fun v hv => (by cases hv), fun _ fl => ?_⟩
          exact g_seg0 n (k + 1) (j + 1) (0 :: r) hc' (by simpa using b3)
        · simp only [if_neg hz]
          exact g_seg n (k + 1) (j + 1) (f_bin (mc j) x y :: r) hc' (by simpa using b3)
theorem g_okseg {c mc : Int → Int} {m d0 : Nat} (hd : d0 ≤ 12) : ∀ (n : Nat) (k j : Int) (d : Nat), (∀ i, 0 ≤ i → i < (n : Int) → c (k + i) = mc (j + i)) → f_ok mc n j d → g_ok c m (k + n) (d0 + 1) → g_ok c (n + m) k (d0 + d)
  | 0, k, j, d, hc, h, g => by
    have h : d = 1 := h
    subst h
    rw [Nat.zero_add]
    rw [show k + ((0 : Nat) : Int) = k by omega] at g
    exact g
  | n + 1, k, j, d, hc, h, g => by
    have h0 := hc 0 (by omega) (by omega)
    rw [Int.add_zero, Int.add_zero] at h0
    have hc' : ∀ i, 0 ≤ i → i < (n : Int) → c (k + 1 + i) = mc (j + 1 + i) := fun i a b => by
      have := hc (1 + i) (by omega) (by omega)
      rw [show k + 1 + i = k + (1 + i) by omega, show j + 1 + i = j + (1 + i) by omega]
      exact this
    rw [show k + ((n + 1 : Nat) : Int) = k + 1 + n by omega] at g
    unfold f_ok at h
    rw [show n + 1 + m = (n + m) + 1 by omega]
    unfold g_ok
    rw [h0]
    rcases h with ⟨b0, b1, b2, b3⟩ | ⟨b0, b1, b2, b3⟩ | ⟨b0, b1, b2, b3⟩
    · exact Or.inl ⟨by omega, by omega, by omega, g_okseg hd n (k + 1) (j + 1) (d + 1) hc' b3 g⟩
    · exact Or.inl ⟨by omega, by omega, by omega, g_okseg hd n (k + 1) (j + 1) (d + 1) hc' b3 g⟩
    · refine Or.inr (Or.inr ⟨by omega, by omega, by omega, by omega, ?_⟩)
      rw [show d0 + d - 1 = d0 + (d - 1) by omega]
      exact g_okseg hd n (k + 1) (j + 1) (d - 1) hc' b3 g
end
