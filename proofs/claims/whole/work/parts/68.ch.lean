section
/-! chains: how many can stay -/
def l_w (x : Int → Int) (sl : Int) : Nat → Int → Int → Int
  | 0, _, _ => 0
  | k + 1, i, u => if u ≤ x i ∧ x i ≤ sl then max (1 + l_w x sl k (i + 1) (x i)) (l_w x sl k (i + 1) u) else l_w x sl k (i + 1) u
theorem l_w_s {x : Int → Int} {sl i u : Int} {k : Nat} : l_w x sl (k + 1) i u = if u ≤ x i ∧ x i ≤ sl then max (1 + l_w x sl k (i + 1) (x i)) (l_w x sl k (i + 1) u) else l_w x sl k (i + 1) u := rfl
theorem l_w_b {x : Int → Int} {sl : Int} : ∀ (k : Nat) (i u : Int), 0 ≤ l_w x sl k i u ∧ l_w x sl k i u ≤ k
  | 0, i, u => by show 0 ≤ (0 : Int) ∧ (0 : Int) ≤ ((0 : Nat) : Int); omega
  | k + 1, i, u => by
    have h1 := l_w_b (x := x) (sl := sl) k (i + 1) u
    have h2 := l_w_b (x := x) (sl := sl) k (i + 1) (x i)
    rw [l_w_s]
    split <;> omega
theorem l_w_m {x : Int → Int} {sl : Int} : ∀ (k : Nat) (i u u' : Int), u ≤ u' → l_w x sl k i u' ≤ l_w x sl k i u
  | 0, i, u, u', _ => Int.le_refl _
  | k + 1, i, u, u', h => by
    have h1 := l_w_m (x := x) (sl := sl) k (i + 1) u u' h
    rw [l_w_s, l_w_s]
    by_cases c1 : u' ≤ x i ∧ x i ≤ sl
    · rw [if_pos c1, if_pos (by omega)]
      omega
    · rw [if_neg c1]
      split <;> omega
theorem l_w_c {x x' : Int → Int} {sl : Int} : ∀ (k : Nat) (i u : Int), (∀ j, i ≤ j → j < i + k → x j = x' j) → l_w x sl k i u = l_w x' sl k i u
  | 0, _, _, _ => rfl
  | k + 1, i, u, h => by
    have e := h i (Int.le_refl _) (by omega)
    rw [l_w_s, l_w_s, e, l_w_c k (i + 1) u (fun j a c => h j (by omega) (by omega)), l_w_c k (i + 1) (x' i) (fun j a c => h j (by omega) (by omega))]
/-- rows that live somewhere -/
def l_ct (hm : Int → Int) : Nat → Int → Int
  | 0, _ => 0
  | k + 1, i => (if hm i < 0 then 0 else 1) + l_ct hm k (i + 1)
theorem l_ct_all {hm : Int → Int} : ∀ (k : Nat) (i : Int), (∀ j, i ≤ j → j < i + k → 0 ≤ hm j) → l_ct hm k i = k
  | 0, _, _ => rfl
  | k + 1, i, h => by
    show (if hm i < 0 then 0 else 1) + l_ct hm k (i + 1) = _
    have := h i (Int.le_refl _) (by omega)
    rw [if_neg (by omega), l_ct_all k (i + 1) (fun j a c => h j (by omega) (by omega))]
    omega
/-- without costs the table tells the chains -/
theorem l_v_w {pay : Int → Int → Int} {hm : Int → Int} {H n : Int} (hp : ∀ i h, 0 ≤ i → i < n → pay i h = if hm i = h then 0 else if hm i < 0 then 0 else 1000000) (hh : ∀ i, 0 ≤ i → i < n → -1 ≤ hm i) : ∀ (k : Nat) (i : Int) (j : Nat), 0 ≤ i → i + k = n → (j : Int) ≤ H - n → l_v pay H k i j = 1000000 * (l_ct hm k i - l_w (fun i => hm i - i) (H - n) k i (H - n - j))
  | 0, i, j, _, _, _ => by
    show (0 : Int) = 1000000 * (0 - 0)
    omega
  | k + 1, i, j, a, c, d => by
    have ih := fun (j : Nat) (hj : (j : Int) ≤ H - n) => l_v_w (H := H) hp hh k (i + 1) j (by omega) (by omega) hj
    have hi := hh i a (by omega)
    have ct : l_ct hm (k + 1) i = (if hm i < 0 then 0 else 1) + l_ct hm k (i + 1) := rfl
    have eg : ∀ j : Nat, l_g pay H k i j = if hm i = i + (H - n - j) then 0 else if hm i < 0 then 0 else 1000000 := fun j => by
      unfold l_g
      rw [hp i _ a (by omega), show H - ((k : Int) + 1) - j = i + (H - n - j) by omega]
    rw [l_v_s, ct]
    generalize l_ct hm k (i + 1) = C at ih ⊢
    induction j with
    | zero =>
      have e := ih 0 d
      show l_v pay H k (i + 1) 0 + l_g pay H k i 0 = _
      rw [e, eg 0, l_w_s]
      try dsimp only
      by_cases c1 : hm i < 0
      · rw [if_pos c1, if_pos c1, if_neg (show ¬ (H - n - ((0 : Nat) : Int) ≤ hm i - i ∧ hm i - i ≤ H - n) by omega)]
        split <;> omega
      · rw [if_neg c1, if_neg c1]
        by_cases c2 : hm i = i + (H - n - ((0 : Nat) : Int))
        · rw [if_pos c2, if_pos (show H - n - ((0 : Nat) : Int) ≤ hm i - i ∧ hm i - i ≤ H - n by omega), show hm i - i = H - n - ((0 : Nat) : Int) by omega]
          omega
        · rw [if_neg c2, if_neg (show ¬ (H - n - ((0 : Nat) : Int) ≤ hm i - i ∧ hm i - i ≤ H - n) by omega)]
          omega
    | succ j ihj =>
      have ihj := ihj (by omega)
      have e := ih (j + 1) d
      have mo := l_w_m (x := fun i => hm i - i) (sl := H - n) k (i + 1) (H - n - ((j + 1 : Nat) : Int)) (H - n - (j : Nat)) (by omega)
      rw [l_row_s, ihj, e, eg (j + 1), l_w_s, l_w_s]
      try dsimp only
      generalize hw : l_w (fun i => hm i - i) (H - n) k (i + 1) (hm i - i) = W0
      generalize hw1 : l_w (fun i => hm i - i) (H - n) k (i + 1) (H - n - (j : Nat)) = W1 at mo
      generalize hw2 : l_w (fun i => hm i - i) (H - n) k (i + 1) (H - n - ((j + 1 : Nat) : Int)) = W2 at mo
      by_cases c1 : hm i < 0
      · rw [if_pos c1, if_neg (show ¬ (H - n - ((j : Nat) : Int) ≤ hm i - i ∧ hm i - i ≤ H - n) by omega), if_neg (show ¬ (H - n - ((j + 1 : Nat) : Int) ≤ hm i - i ∧ hm i - i ≤ H - n) by omega), if_neg (show ¬ hm i = i + (H - n - ((j + 1 : Nat) : Int)) by omega), if_pos c1]
        split <;> omega
      · rw [if_neg c1, if_neg c1]
        by_cases c2 : hm i = i + (H - n - ((j + 1 : Nat) : Int))
        · have : W0 = W2 := by rw [← hw, ← hw2, show hm i - i = H - n - ((j + 1 : Nat) : Int) by omega]
          rw [if_pos c2, if_neg (show ¬ (H - n - ((j : Nat) : Int) ≤ hm i - i ∧ hm i - i ≤ H - n) by omega), if_pos (show H - n - ((j + 1 : Nat) : Int) ≤ hm i - i ∧ hm i - i ≤ H - n by omega)]
          split <;> omega
        · rw [if_neg c2]
          by_cases c3 : H - n - ((j : Nat) : Int) ≤ hm i - i ∧ hm i - i ≤ H - n
          · rw [if_pos c3, if_pos (show H - n - ((j + 1 : Nat) : Int) ≤ hm i - i ∧ hm i - i ≤ H - n by omega)]
            split <;> omega
          · rw [if_neg c3, if_neg (show ¬ (H - n - ((j + 1 : Nat) : Int) ≤ hm i - i ∧ hm i - i ≤ H - n) by omega)]
            split <;> omega
/-- who comes between: he keeps nobody from staying -/
theorem l_w_skip {x x' : Int → Int} {sl cp : Int} (h1 : ∀ i, 0 ≤ i → i < cp → x i = x' i) (h2 : x cp < 0) (h3 : ∀ i, cp ≤ i → x (i + 1) = x' i) : ∀ (k : Nat) (i u : Int), 0 ≤ i → 0 ≤ u → (i ≤ cp → cp ≤ i + k → l_w x sl (k + 1) i u = l_w x' sl k i u) ∧ (cp ≤ i → l_w x sl k (i + 1) u = l_w x' sl k i u)
  | 0, i, u, a, c => by
    refine ⟨fun d e => ?_, fun _ => rfl⟩
    have ei : i = cp := by omega
    subst ei
    rw [l_w_s, if_neg (by omega)]
    rfl
  | k + 1, i, u, a, c => by
    have s2 : cp ≤ i → l_w x sl (k + 1) (i + 1) u = l_w x' sl (k + 1) i u := by
      intro d
      rw [l_w_s, l_w_s, h3 i d, (l_w_skip h1 h2 h3 k (i + 1) u (by omega) c).2 (by omega)]
      by_cases cc : u ≤ x' i ∧ x' i ≤ sl
      · rw [if_pos cc, if_pos cc, (l_w_skip h1 h2 h3 k (i + 1) (x' i) (by omega) (by omega)).2 (by omega)]
      · rw [if_neg cc, if_neg cc]
    refine ⟨fun d e => ?_, s2⟩
    by_cases ei : i = cp
    · subst ei
      rw [l_w_s, if_neg (by omega)]
      exact s2 (Int.le_refl _)
    · have eL := l_w_s (x := x) (sl := sl) (i := i) (u := u) (k := k + 1)
      have eR := l_w_s (x := x') (sl := sl) (i := i) (u := u) (k := k)
      rw [eL, eR, h1 i a (by omega), (l_w_skip h1 h2 h3 k (i + 1) u (by omega) c).1 (by omega) (by omega)]
      by_cases cc : u ≤ x' i ∧ x' i ≤ sl
      · rw [if_pos cc, if_pos cc, (l_w_skip h1 h2 h3 k (i + 1) (x' i) (by omega) (by omega)).1 (by omega) (by omega)]
      · rw [if_neg cc, if_neg cc]
/-- with somebody between who lives nowhere, those that live are all but him -/
theorem l_ct_skip {hm : Int → Int} {cp : Int} (h1 : ∀ i, 0 ≤ i → i ≠ cp → 0 ≤ hm i) (h2 : hm cp < 0) : ∀ (k : Nat) (i : Int), 0 ≤ i → (i ≤ cp → cp < i + k → l_ct hm k i = k - 1) ∧ (cp < i → l_ct hm k i = k)
  | 0, i, a => by
    refine ⟨fun d e => by omega, fun _ => rfl⟩
  | k + 1, i, a => by
    have ih := l_ct_skip h1 h2 k (i + 1) (by omega)
    have ct : l_ct hm (k + 1) i = (if hm i < 0 then 0 else 1) + l_ct hm k (i + 1) := rfl
    rw [ct]
    refine ⟨fun d e => ?_, fun d => ?_⟩
    · by_cases ei : i = cp
      · subst ei
        rw [if_pos h2, ih.2 (by omega)]
        omega
      · have := h1 i a ei
        rw [if_neg (by omega), ih.1 (by omega) (by omega)]
        omega
    · have := h1 i a (by omega)
      rw [if_neg (by omega), ih.2 (by omega)]
      omega
end
