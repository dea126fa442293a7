section
/-! LEAST: the table's values and places -/
def l_dr (f : Nat → Int) (g : Int → Int) (H : Int) : Nat → Int
  | 0 => 100000000
  | j + 1 => if (if 100000000 ≤ f j then 100000000 else f j + g (H - (j + 1))) < l_dr f g H j then (if 100000000 ≤ f j then 100000000 else f j + g (H - (j + 1))) else l_dr f g H j
/-- the reference's table: k rows from i on, j houses up to the end -/
def l_D (pay : Int → Int → Int) (H : Int) : Nat → Int → Nat → Int
  | 0, _ => fun _ => 0
  | k + 1, i => l_dr (l_D pay H k (i + 1)) (pay i) H
theorem l_dr_s {f : Nat → Int} {g : Int → Int} {H : Int} {j : Nat} : l_dr f g H (j + 1) = (if (if 100000000 ≤ f j then 100000000 else f j + g (H - (j + 1))) < l_dr f g H j then (if 100000000 ≤ f j then 100000000 else f j + g (H - (j + 1))) else l_dr f g H j) := rfl
theorem l_D_s {pay : Int → Int → Int} {H i : Int} {k : Nat} : l_D pay H (k + 1) i = l_dr (l_D pay H k (i + 1)) (pay i) H := rfl
/-- pay is sound from row i on -/
abbrev l_pb (pay : Int → Int → Int) (H lo hi : Int) : Prop := ∀ i h, lo ≤ i → i < hi → 0 ≤ h → h < H → 0 ≤ pay i h ∧ pay i h ≤ 1009999
theorem l_D_b {pay : Int → Int → Int} {H : Int} : ∀ (k : Nat) (i : Int), l_pb pay H i (i + k) → ∀ j : Nat, j ≤ H → l_D pay H k i j = 100000000 ∨ (0 ≤ l_D pay H k i j ∧ l_D pay H k i j ≤ 1009999 * k)
  | 0, i, _, j, _ => by
    right
    show 0 ≤ (0 : Int) ∧ (0 : Int) ≤ 1009999 * ((0 : Nat) : Int)
    omega
  | k + 1, i, hp, j, hj => by
    have ih := l_D_b (pay := pay) (H := H) k (i + 1) (fun i' h a b c d => hp i' h (by omega) (by omega) c d)
    rw [l_D_s]
    induction j with
    | zero => exact Or.inl rfl
    | succ j ihj =>
      have ih := ih j (by omega)
      have ihj := ihj (by omega)
      have p := hp i (H - (j + 1)) (by omega) (by omega) (by omega) (by omega)
      rw [l_dr_s]
      generalize l_dr (l_D pay H k (i + 1)) (pay i) H j = x at ihj ⊢
      generalize l_D pay H k (i + 1) j = y at ih ⊢
      generalize pay i (H - (↑j + 1)) = z at p ⊢
      by_cases c1 : (100000000 : Int) ≤ y
      · rw [if_pos c1]
        by_cases c2 : (100000000 : Int) < x
        · rw [if_pos c2]; exact Or.inl rfl
        · rw [if_neg c2]; exact ihj
      · rw [if_neg c1]
        by_cases c2 : y + z < x
        · rw [if_pos c2]; right; omega
        · rw [if_neg c2]; exact ihj
/-- the values where they matter -/
def l_row (f g : Nat → Int) : Nat → Int
  | 0 => f 0 + g 0
  | j + 1 => if l_row f g j < f (j + 1) + g (j + 1) then l_row f g j else f (j + 1) + g (j + 1)
def l_g (pay : Int → Int → Int) (H : Int) (k : Nat) (i : Int) (j : Nat) : Int := pay i (H - (k + 1) - j)
def l_v (pay : Int → Int → Int) (H : Int) : Nat → Int → Nat → Int
  | 0, _ => fun _ => 0
  | k + 1, i => l_row (l_v pay H k (i + 1)) (l_g pay H k i)
theorem l_v_s {pay : Int → Int → Int} {H i : Int} {k : Nat} : l_v pay H (k + 1) i = l_row (l_v pay H k (i + 1)) (l_g pay H k i) := rfl
theorem l_row_s {f g : Nat → Int} {j : Nat} : l_row f g (j + 1) = if l_row f g j < f (j + 1) + g (j + 1) then l_row f g j else f (j + 1) + g (j + 1) := rfl
theorem l_row_c {f f' g g' : Nat → Int} : ∀ j : Nat, (∀ i, i ≤ j → f i = f' i ∧ g i = g' i) → l_row f g j = l_row f' g' j
  | 0, h => by
    obtain ⟨h1, h2⟩ := h 0 (by omega)
    show f 0 + g 0 = f' 0 + g' 0
    rw [h1, h2]
  | j + 1, h => by
    obtain ⟨h1, h2⟩ := h (j + 1) (by omega)
    rw [l_row_s, l_row_s, h1, h2, l_row_c j (fun i hi => h i (by omega))]
theorem l_v_b {pay : Int → Int → Int} {H : Int} {lo hi : Int} (hp : l_pb pay H lo hi) : ∀ (k : Nat) (i : Int) (j : Nat), lo ≤ i → i + k ≤ hi → 0 ≤ H - k - j → 0 ≤ l_v pay H k i j ∧ l_v pay H k i j ≤ 1009999 * k
  | 0, i, j, _, _, _ => by show 0 ≤ (0 : Int) ∧ (0 : Int) ≤ 1009999 * ((0 : Nat) : Int); omega
  | k + 1, i, j, a, c, d => by
    rw [l_v_s]
    induction j with
    | zero =>
      have := l_v_b hp k (i + 1) 0 (by omega) (by omega) (by omega)
      have p := hp i (H - (k + 1) - (0 : Nat)) a (by omega) (by omega) (by omega)
      show 0 ≤ l_v pay H k (i + 1) 0 + l_g pay H k i 0 ∧ l_v pay H k (i + 1) 0 + l_g pay H k i 0 ≤ _
      unfold l_g
      omega
    | succ j ihj =>
      have ihj := ihj (by omega)
      have := l_v_b hp k (i + 1) (j + 1) (by omega) (by omega) (by omega)
      have p := hp i (H - (k + 1) - (j + 1 : Nat)) a (by omega) (by omega) (by omega)
      rw [l_row_s]
      split
      · exact ihj
      · unfold l_g
        omega
theorem l_D_far {pay : Int → Int → Int} {H : Int} : ∀ (k : Nat) (i : Int) (j : Nat), j < k → l_D pay H k i j = 100000000
  | 0, _, j, h => by omega
  | k + 1, i, j, h => by
    rw [l_D_s]
    induction j with
    | zero => rfl
    | succ j ihj =>
      have e := l_D_far (pay := pay) (H := H) k (i + 1) j (by omega)
      have ihj := ihj (by omega)
      rw [l_dr_s, e, ihj]
      simp only [Int.le_refl, if_true, Int.lt_irrefl, if_false]
theorem l_D_v {pay : Int → Int → Int} {H : Int} {lo hi : Int} (hp : l_pb pay H lo hi) (hb : hi - lo ≤ 30) : ∀ (k : Nat) (i : Int) (j : Nat), lo ≤ i → i + k ≤ hi → 0 ≤ H - k - j → l_D pay H k i (k + j) = l_v pay H k i j
  | 0, i, j, _, _, _ => rfl
  | k + 1, i, j, a, c, d => by
    have hg : ∀ j : Nat, H - ((((k + j : Nat)) : Int) + 1) = H - (k + 1) - j := fun j => by omega
    rw [l_D_s, l_v_s]
    induction j with
    | zero =>
      have e := l_D_v hp hb k (i + 1) 0 (by omega) (by omega) (by omega)
      have vb := l_v_b hp k (i + 1) 0 (by omega) (by omega) (by omega)
      have f : l_dr (l_D pay H k (i + 1)) (pay i) H k = 100000000 := l_D_far (k + 1) i k (by omega)
      have p := hp i (H - (k + 1) - (0 : Nat)) a (by omega) (by omega) (by omega)
      rw [show k + 1 + 0 = k + 1 by omega, l_dr_s, f]
      rw [show k + 0 = k by omega] at e
      have hg := hg 0
      rw [show k + 0 = k by omega] at hg
      rw [e, hg]
      show _ = l_v pay H k (i + 1) 0 + l_g pay H k i 0
      unfold l_g
      generalize l_v pay H k (i + 1) 0 = x at vb ⊢
      generalize pay i (H - (↑k + 1) - ↑(0 : Nat)) = y at p ⊢
      rw [if_neg (show ¬ (100000000 : Int) ≤ x by omega), if_pos (show x + y < (100000000 : Int) by omega)]
    | succ j ihj =>
      have ihj := ihj (by omega)
      have e := l_D_v hp hb k (i + 1) (j + 1) (by omega) (by omega) (by omega)
      have vb := l_v_b hp k (i + 1) (j + 1) (by omega) (by omega) (by omega)
      have p := hp i (H - (k + 1) - (j + 1 : Nat)) a (by omega) (by omega) (by omega)
      rw [show k + 1 + (j + 1) = (k + (j + 1)) + 1 by omega, l_dr_s, e, hg (j + 1), l_row_s]
      rw [show k + 1 + j = k + (j + 1) by omega] at ihj
      rw [ihj]
      show _ = if l_row (l_v pay H k (i + 1)) (l_g pay H k i) j < _ + pay i (H - (k + 1) - (j + 1 : Nat)) then _ else _ + pay i (H - (k + 1) - (j + 1 : Nat))
      generalize l_row (l_v pay H k (i + 1)) (l_g pay H k i) j = z
      generalize l_v pay H k (i + 1) (j + 1) = x at vb ⊢
      generalize pay i (H - (↑k + 1) - ↑(j + 1)) = y at p ⊢
      rw [if_neg (show ¬ (100000000 : Int) ≤ x by omega)]
      by_cases c1 : x + y < z
      · rw [if_pos c1, if_neg (by omega)]
      · rw [if_neg c1]
        by_cases c2 : z < x + y
        · rw [if_pos c2]
        · rw [if_neg c2]; omega
/-- which place is taken -/
def l_pk (f g : Nat → Int) : Nat → Nat
  | 0 => 0
  | j + 1 => if l_row f g j < f (j + 1) + g (j + 1) then l_pk f g j else j + 1
theorem l_pk_s {f g : Nat → Int} {j : Nat} : l_pk f g (j + 1) = if l_row f g j < f (j + 1) + g (j + 1) then l_pk f g j else j + 1 := rfl
theorem l_pk_le {f g : Nat → Int} : ∀ j : Nat, l_pk f g j ≤ j
  | 0 => Nat.le_refl _
  | j + 1 => by
    have := l_pk_le (f := f) (g := g) j
    rw [l_pk_s]
    split <;> omega
def l_js (pay : Int → Int → Int) (H : Int) (n : Nat) : Nat → Nat
  | 0 => (H - n).toNat
  | i + 1 => l_pk (l_v pay H (n - (i + 1)) ((i + 1 : Nat) : Int)) (l_g pay H (n - (i + 1)) (i : Nat)) (l_js pay H n i)
theorem l_js_s {pay : Int → Int → Int} {H : Int} {n i : Nat} : l_js pay H n (i + 1) = l_pk (l_v pay H (n - (i + 1)) ((i + 1 : Nat) : Int)) (l_g pay H (n - (i + 1)) (i : Nat)) (l_js pay H n i) := rfl
theorem l_js_le {pay : Int → Int → Int} {H : Int} {n : Nat} : ∀ i : Nat, l_js pay H n i ≤ (H - n).toNat
  | 0 => Nat.le_refl _
  | i + 1 => by
    rw [l_js_s]
    exact Nat.le_trans (l_pk_le _) (l_js_le i)
/-- the house of the i-th -/
def l_at (pay : Int → Int → Int) (H : Int) (n : Nat) (i : Nat) : Int := H - (n - i) - l_js pay H n (i + 1)
theorem l_at_b {pay : Int → Int → Int} {H : Int} {n i : Nat} (hi : i < n) (hn : (n : Int) ≤ H) : 0 ≤ l_at pay H n i ∧ l_at pay H n i < H := by
  have := l_js_le (pay := pay) (H := H) (n := n) (i + 1)
  unfold l_at
  omega
theorem l_at_lt {pay : Int → Int → Int} {H : Int} {n i : Nat} (hi : i + 1 < n) (hn : (n : Int) ≤ H) : l_at pay H n i < l_at pay H n (i + 1) := by
  have : l_js pay H n (i + 1 + 1) ≤ l_js pay H n (i + 1) := by
    rw [l_js_s (i := i + 1)]
    exact l_pk_le _
  unfold l_at
  omega
theorem l_at_mono {pay : Int → Int → Int} {H : Int} {n : Nat} (hn : (n : Int) ≤ H) : ∀ (d i : Nat), i + d + 1 < n → l_at pay H n i < l_at pay H n (i + d + 1)
  | 0, i, h => l_at_lt h hn
  | d + 1, i, h => by
    have := l_at_mono (pay := pay) hn d i (by omega)
    have := l_at_lt (pay := pay) (i := i + d + 1) (by omega) hn
    rw [show i + (d + 1) + 1 = i + d + 1 + 1 by omega]
    omega
end
