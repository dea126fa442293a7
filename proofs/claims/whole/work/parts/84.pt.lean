section
/-! part: one side, both sides, all sets (pure) -/
def a_g (T : Int) (lv : Int → Int) (c : Int → Bool) : Nat → Int → Int → Int
  | 0, _, _ => 0
  | k + 1, q, l => if c q = true then min (if l < T then 1 + a_g T lv c k (q + 1) (l + 1) else 1000) (if l ≤ lv q then a_g T lv c k (q + 1) (lv q + 1) else 1000) else a_g T lv c k (q + 1) l
theorem a_g_s {T : Int} {lv : Int → Int} {c : Int → Bool} {k : Nat} {q l : Int} : a_g T lv c (k + 1) q l = if c q = true then min (if l < T then 1 + a_g T lv c k (q + 1) (l + 1) else 1000) (if l ≤ lv q then a_g T lv c k (q + 1) (lv q + 1) else 1000) else a_g T lv c k (q + 1) l := rfl
theorem a_g_0 {T : Int} {lv : Int → Int} {c : Int → Bool} : ∀ (k : Nat) (q l : Int), 0 ≤ a_g T lv c k q l
  | 0, q, l => Int.le_refl 0
  | k + 1, q, l => by
    have h1 := a_g_0 (T := T) (lv := lv) (c := c) k (q + 1) (l + 1)
    have h2 := a_g_0 (T := T) (lv := lv) (c := c) k (q + 1) (lv q + 1)
    have h3 := a_g_0 (T := T) (lv := lv) (c := c) k (q + 1) l
    rw [a_g_s]
    split
    · split <;> split <;> omega
    · exact h3
theorem a_g_c {T : Int} {lv : Int → Int} {c c' : Int → Bool} : ∀ (k : Nat) (q l : Int), (∀ j, q ≤ j → j < q + k → c j = c' j) → a_g T lv c k q l = a_g T lv c' k q l
  | 0, q, l, _ => rfl
  | k + 1, q, l, h => by
    rw [a_g_s, a_g_s, h q (by omega) (by omega)]
    rw [a_g_c k (q + 1) (l + 1) (fun j a b => h j (by omega) (by omega)), a_g_c k (q + 1) (lv q + 1) (fun j a b => h j (by omega) (by omega)), a_g_c k (q + 1) l (fun j a b => h j (by omega) (by omega))]
/-- how many of the first are chosen -/
def a_n (c : Int → Bool) : Nat → Int
  | 0 => 0
  | k + 1 => a_n c k + if c k = true then 1 else 0
theorem a_n_s {c : Int → Bool} {k : Nat} : a_n c (k + 1) = a_n c k + if c k = true then 1 else 0 := rfl
theorem a_n_m {c : Int → Bool} (q : Nat) : ∀ d : Nat, a_n c q ≤ a_n c (q + d) ∧ a_n c (q + d) ≤ a_n c q + d
  | 0 => ⟨Int.le_refl _, by show a_n c q ≤ a_n c q + ((0 : Nat) : Int); omega⟩
  | d + 1 => by
    have := a_n_m (c := c) q d
    rw [show q + (d + 1) = (q + d) + 1 by omega, a_n_s]
    split <;> omega
theorem a_n_b {c : Int → Bool} (q : Nat) : 0 ≤ a_n c q ∧ a_n c q ≤ q := by
  have := a_n_m (c := c) 0 q
  rw [show 0 + q = q by omega, show a_n c 0 = 0 from rfl] at this
  omega
theorem a_g_w {T n : Int} {lv hm : Int → Int} {c : Int → Bool} {M : Nat} (hn : n = a_n c M) (hh : ∀ q : Nat, q < M → c q = true → hm (a_n c q) = lv q) (hl : ∀ q : Nat, q < M → lv q < T) (hM : M ≤ 900) : ∀ (k q : Nat) (l : Int), q + k = M → l ≤ T →
    (l + (n - a_n c q) ≤ T → a_g T lv c k q l = (n - a_n c q) - l_w (fun i => hm i - i) (T - n) (n - a_n c q).toNat (a_n c q) (l - a_n c q)) ∧ (T < l + (n - a_n c q) → 1000 ≤ a_g T lv c k q l)
  | 0, q, l, e, h => by
    have : q = M := by omega
    subst this
    rw [show n - a_n c q = 0 by omega]
    exact ⟨fun _ => rfl, fun x => by omega⟩
  | k + 1, q, l, e, h => by
    have hlq := hl q (by omega)
    have hhq := hh q (by omega)
    have ih1 := a_g_w hn hh hl hM k (q + 1) (l + 1) (by omega)
    have ih2 := a_g_w hn hh hl hM k (q + 1) (lv q + 1) (by omega) (by omega)
    have ih3 := a_g_w hn hh hl hM k (q + 1) l (by omega) h
    have m1 := a_n_m (c := c) (q + 1) k
    have m2 := a_n_b (c := c) M
    have m3 := a_n_b (c := c) q
    rw [show q + 1 + k = M by omega, ← hn] at m1
    rw [a_n_s] at ih1 ih2 ih3 m1
    rw [show ((q + 1 : Nat) : Int) = (q : Int) + 1 by omega] at ih1 ih2 ih3
    rw [a_g_s]
    by_cases cq : c q = true
    · have hhq := hhq cq
      rw [if_pos cq] at ih1 ih2 ih3 m1
      rw [if_pos cq]
      have st : ∀ u, l_w (fun i => hm i - i) (T - n) (n - a_n c q).toNat (a_n c q) u = if u ≤ hm (a_n c q) - a_n c q ∧ hm (a_n c q) - a_n c q ≤ T - n then max (1 + l_w (fun i => hm i - i) (T - n) (n - (a_n c q + 1)).toNat (a_n c q + 1) (hm (a_n c q) - a_n c q)) (l_w (fun i => hm i - i) (T - n) (n - (a_n c q + 1)).toNat (a_n c q + 1) u) else l_w (fun i => hm i - i) (T - n) (n - (a_n c q + 1)).toNat (a_n c q + 1) u := fun u => by
        rw [show (n - a_n c q).toNat = (n - (a_n c q + 1)).toNat + 1 by omega, l_w_s]
      rw [st, hhq]
      rw [show l + 1 - (a_n c q + 1) = l - a_n c q by omega] at ih1
      rw [show lv q + 1 - (a_n c q + 1) = lv q - a_n c q by omega] at ih2
      have b1 := l_w_b (x := fun i => hm i - i) (sl := T - n) (n - (a_n c q + 1)).toNat (a_n c q + 1) (lv q - a_n c q)
      have b2 := l_w_b (x := fun i => hm i - i) (sl := T - n) (n - (a_n c q + 1)).toNat (a_n c q + 1) (l - a_n c q)
      generalize l_w (fun i => hm i - i) (T - n) (n - (a_n c q + 1)).toNat (a_n c q + 1) (lv q - a_n c q) = W1 at *
      generalize l_w (fun i => hm i - i) (T - n) (n - (a_n c q + 1)).toNat (a_n c q + 1) (l - a_n c q) = W2 at *
      generalize a_g T lv c k (↑q + 1) (l + 1) = G1 at *
      generalize a_g T lv c k (↑q + 1) (lv ↑q + 1) = G2 at *
      generalize a_n c q = A at *
      clear ih3 st hh hl hhq
      generalize lv q = L at *
      refine ⟨fun x => ?_, fun x => ?_⟩
      · have i1 := (ih1 (by omega)).1 (by omega)
        rw [if_pos (show l < T by omega)]
        by_cases c1 : l ≤ L
        · rw [if_pos c1]
          by_cases c2 : L - A ≤ T - n
          · have i2 := ih2.1 (by omega)
            rw [if_pos (by omega)]
            omega
          · have i2 := ih2.2 (by omega)
            rw [if_neg (by omega)]
            omega
        · rw [if_neg c1, if_neg (by omega)]
          omega
      · by_cases c1 : l < T
        · have i1 := (ih1 (by omega)).2 (by omega)
          rw [if_pos c1]
          by_cases c2 : l ≤ L
          · have i2 := ih2.2 (by omega)
            rw [if_pos c2]
            omega
          · rw [if_neg c2]
            omega
        · rw [if_neg c1]
          by_cases c2 : l ≤ L
          · omega
          · rw [if_neg c2]
            omega
    · rw [if_neg cq] at ih3
      rw [if_neg cq]
      rw [show a_n c q + 0 = a_n c q by omega] at ih3
      exact ih3
def pw2 (j : Int) : Int := ((2 ^ j.toNat : Nat) : Int)
theorem pw2_pos (j : Int) : 1 ≤ pw2 j := by
  unfold pw2
  have := Nat.two_pow_pos j.toNat
  omega
theorem pw2_s {j : Int} (h : 0 ≤ j) : pw2 (j + 1) = 2 * pw2 j := by
  unfold pw2
  rw [show (j + 1).toNat = j.toNat + 1 by omega, Nat.pow_succ]
  omega
theorem pw2_le {j : Int} (h : 0 ≤ j ∧ j ≤ 12) : pw2 j ≤ 4096 := by
  have : j = 0 ∨ j = 1 ∨ j = 2 ∨ j = 3 ∨ j = 4 ∨ j = 5 ∨ j = 6 ∨ j = 7 ∨ j = 8 ∨ j = 9 ∨ j = 10 ∨ j = 11 ∨ j = 12 := by omega
  rcases this with h | h | h | h | h | h | h | h | h | h | h | h | h <;> subst h <;> decide
theorem pw2_a (j : Int) : ∀ e : Nat, 0 ≤ j → pw2 (j + e) = pw2 j * pw2 e
  | 0, _ => by
    show pw2 (j + ((0 : Nat) : Int)) = pw2 j * 1
    rw [show j + ((0 : Nat) : Int) = j by omega, Int.mul_one]
  | e + 1, h => by
    rw [show j + ((e + 1 : Nat) : Int) = j + e + 1 by omega, pw2_s (by omega), pw2_a j e h, show ((e + 1 : Nat) : Int) = (e : Int) + 1 by omega, pw2_s (by omega)]
    rw [Int.mul_left_comm]
def bt (x j : Int) : Int := x / pw2 j % 2
theorem bt_b (x j : Int) : bt x j = 0 ∨ bt x j = 1 := by unfold bt; omega
/-- a number is the sum of its bits -/
theorem bt_sum {x : Int} (hx : 0 ≤ x) : ∀ M : Nat, m_sum (fun j => if bt x j = 1 then pw2 j else 0) M = x % pw2 M
  | 0 => by
    show 0 = x % 1
    omega
  | M + 1 => by
    rw [m_sum_s, bt_sum hx M, show ((M + 1 : Nat) : Int) = (M : Int) + 1 by omega, pw2_s (by omega)]
    have pp := pw2_pos M
    have e1 := Int.mul_ediv_add_emod x (pw2 M)
    have e2 := Int.emod_nonneg x (show pw2 M ≠ 0 by omega)
    have e3 := Int.emod_lt_of_pos x (show 0 < pw2 M by omega)
    unfold bt
    generalize pw2 M = p at *
    generalize hq : x / p = y at *
    have e4 : x % (2 * p) = x % p + p * (y % 2) := by
      have z : x = (x % p + p * (y % 2)) + (2 * p) * (y / 2) := by
        have : p * y = p * (y % 2) + 2 * p * (y / 2) := by
          rw [Int.mul_comm 2 p, Int.mul_assoc, ← Int.mul_add]
          congr 1
          omega
        omega
      have b : 0 ≤ p * (y % 2) ∧ p * (y % 2) ≤ p := by
        rcases (show y % 2 = 0 ∨ y % 2 = 1 by omega) with h | h <;> rw [h] <;> omega
      conv => lhs; rw [z]
      rw [Int.add_mul_emod_self_left]
      exact Int.emod_eq_of_lt (by omega) (by omega)
    rw [e4]
    rcases (show y % 2 = 0 ∨ y % 2 = 1 by omega) with h | h <;> rw [h]
    · rw [if_neg (by omega)]; omega
    · rw [if_pos rfl]; omega
/-- the number whose bits are given -/
def a_mk (d : Int → Bool) (M : Nat) : Int := m_sum (fun j => if d j = true then pw2 j else 0) M
theorem a_mk_s {d : Int → Bool} {M : Nat} : a_mk d (M + 1) = a_mk d M + if d M = true then pw2 M else 0 := rfl
theorem a_mk_b {d : Int → Bool} : ∀ M : Nat, 0 ≤ a_mk d M ∧ a_mk d M < pw2 M
  | 0 => by
    show 0 ≤ (0 : Int) ∧ (0 : Int) < 1
    omega
  | M + 1 => by
    have ih := a_mk_b (d := d) M
    have pp := pw2_pos M
    rw [a_mk_s, show ((M + 1 : Nat) : Int) = (M : Int) + 1 by omega, pw2_s (by omega)]
    split <;> omega
theorem bt_mk {d : Int → Bool} : ∀ (M j : Nat), j < M → bt (a_mk d M) j = if d j = true then 1 else 0
  | 0, j, h => by omega
  | M + 1, j, h => by
    have b := a_mk_b (d := d) M
    have pp := pw2_pos M
    rw [a_mk_s]
    by_cases e : j = M
    · subst e
      unfold bt
      split
      · rw [show a_mk d j + pw2 j = a_mk d j + 1 * pw2 j by omega, Int.add_mul_ediv_right _ _ (by omega), Int.ediv_eq_zero_of_lt b.1 b.2]
        omega
      · rw [Int.add_zero, Int.ediv_eq_zero_of_lt b.1 b.2]
        omega
    · have ih := bt_mk (d := d) M j (by omega)
      rw [← ih]
      have pj := pw2_pos j
      have e1 : pw2 M = (2 * pw2 ((M - j - 1 : Nat) : Int)) * pw2 j := by
        have := pw2_a j (M - j - 1 + 1) (by omega)
        rw [show (j : Int) + ((M - j - 1 + 1 : Nat) : Int) = M by omega, show ((M - j - 1 + 1 : Nat) : Int) = ((M - j - 1 : Nat) : Int) + 1 by omega, pw2_s (by omega)] at this
        rw [this, Int.mul_comm]
      unfold bt
      split
      · rw [e1, Int.add_mul_ediv_right _ _ (by omega)]
        omega
      · rw [Int.add_zero]
/-- sums in another order -/
theorem m_sum_perm {M : Nat} {ix : Int → Int} (h1 : ∀ q : Nat, q < M → 0 ≤ ix q ∧ ix q < M) (h2 : ∀ j : Nat, j < M → ∃ q : Nat, q < M ∧ ix q = j) (h3 : ∀ q q' : Nat, q < M → q' < M → ix q = ix q' → q = q') (f : Int → Int) : m_sum (fun q => f (ix q)) M = m_sum f M := by
  have e1 : m_sum f M = m_sum (fun j => m_sum (fun q => if ix q = j then f j else 0) M) M := by
    refine m_sum_c _ (fun j hj => ?_)
    obtain ⟨q, hq, eq⟩ := h2 j hj
    try dsimp only
    rw [m_sum_one (j := q) M hq (fun i hi hne => if_neg (fun x => hne (h3 i q hi hq (x.trans eq.symm))))]
    exact (if_pos eq).symm
  rw [e1, m_sum_sw]
  refine m_sum_c _ (fun q hq => ?_)
  have b := h1 q hq
  have ej : (((ix q).toNat : Nat) : Int) = ix q := by omega
  try dsimp only
  rw [m_sum_one (j := (ix q).toNat) M (by omega) (fun i hi hne => if_neg (fun x => hne (by omega)))]
  rw [ej, if_pos rfl]
theorem m_sum_f {P : Int → Int} : ∀ n : Nat, m_sum P (n + 1) = P 0 + m_sum (fun i => P (i + 1)) n
  | 0 => by
    show 0 + P ((0 : Nat) : Int) = P 0 + 0
    rw [show ((0 : Nat) : Int) = 0 from rfl]
    omega
  | n + 1 => by
    rw [m_sum_s, m_sum_f n, m_sum_s]
    rw [show ((n + 1 : Nat) : Int) = (n : Int) + 1 by omega]
    omega
theorem w_shr_c {x : Int} (hx : 0 ≤ x ∧ x < 2147483648) (k : Nat) : (BitVec.sshiftRight (BitVec.ofInt 32 x) k).toInt = x / ((2 ^ k : Nat) : Int) := by
  rw [BitVec.toInt_sshiftRight, Int.shiftRight_eq_div_pow, BitVec.toInt_ofInt]
  rw [show Int.bmod x (2 ^ 32) = x by
    unfold Int.bmod
    try dsimp only
    split <;> omega]
theorem w_shr_d {x j : Int} (hx : 0 ≤ x ∧ x < 2147483648) (h : 0 ≤ j ∧ j ≤ 12) : w_shr x j = x / pw2 j := by
  have : j = 0 ∨ j = 1 ∨ j = 2 ∨ j = 3 ∨ j = 4 ∨ j = 5 ∨ j = 6 ∨ j = 7 ∨ j = 8 ∨ j = 9 ∨ j = 10 ∨ j = 11 ∨ j = 12 := by omega
  rcases this with h | h | h | h | h | h | h | h | h | h | h | h | h <;> subst h <;> exact w_shr_c hx _
theorem w_and1 (x : Int) : w_and x 1 = x % 2 := by
  have e : (Int32.ofInt x &&& Int32.ofInt 1).toBitVec.toNat = (x % 4294967296).toNat % 2 := by
    show ((BitVec.ofInt 32 x) &&& (BitVec.ofInt 32 1)).toNat = _
    rw [BitVec.toNat_and, BitVec.toNat_ofInt]
    show ((x % 4294967296).toNat &&& 1) = _
    exact Nat.and_two_pow_sub_one_eq_mod _ 1
  unfold w_and
  show BitVec.toInt _ = _
  rw [BitVec.toInt_eq_toNat_cond, e]
  rw [if_pos (by omega)]
  omega
theorem w_xor1 {x : Int} (hx : -2147483648 ≤ x ∧ x < 2147483648) : w_xor x (-1) = -x - 1 := by
  unfold w_xor
  have e : (Int32.ofInt x ^^^ Int32.ofInt (-1)).toBitVec = ~~~ (BitVec.ofInt 32 x) := by
    show (BitVec.ofInt 32 x) ^^^ (BitVec.ofInt 32 (-1)) = _
    rw [show BitVec.ofInt 32 (-1) = BitVec.allOnes 32 by decide, BitVec.xor_allOnes]
  show BitVec.toInt _ = _
  rw [e, BitVec.toInt_not, BitVec.toNat_ofInt]
  unfold Int.bmod
  try dsimp only
  split <;> omega
theorem w_andm {y j : Int} (h : 0 ≤ j ∧ j ≤ 12) : w_and (pw2 j - 1) y = y % pw2 j := by
  have c : ∀ k : Nat, k ≤ 12 → w_and (((2 ^ k : Nat) : Int) - 1) y = y % ((2 ^ k : Nat) : Int) := by
    intro k hk
    have pk : 2 ^ k ≤ 2 ^ 12 := Nat.pow_le_pow_right (by decide) hk
    have pp := Nat.two_pow_pos k
    have dv : (2 ^ k : Nat) ∣ 4294967296 := Nat.pow_dvd_pow 2 (show k ≤ 32 by omega)
    have e : (Int32.ofInt (((2 ^ k : Nat) : Int) - 1) &&& Int32.ofInt y).toBitVec.toNat = (y % 4294967296).toNat % 2 ^ k := by
      show ((BitVec.ofInt 32 (((2 ^ k : Nat) : Int) - 1)) &&& (BitVec.ofInt 32 y)).toNat = _
      rw [BitVec.toNat_and, BitVec.toNat_ofInt, BitVec.toNat_ofInt, Nat.and_comm]
      rw [show ((((2 ^ k : Nat) : Int) - 1) % ↑(2 ^ 32 : Nat)).toNat = 2 ^ k - 1 by omega, Nat.and_two_pow_sub_one_eq_mod]
      rfl
    have m := Nat.mod_lt (y % 4294967296).toNat pp
    unfold w_and
    show BitVec.toInt _ = _
    rw [BitVec.toInt_eq_toNat_cond, e, if_pos (by omega), Int.natCast_emod]
    rw [show (((y % 4294967296).toNat : Nat) : Int) = y % 4294967296 by omega]
    exact Int.emod_emod_of_dvd y (Int.natCast_dvd_natCast.mpr dv)
  exact c j.toNat (by omega)
/-- what the chosen add -/
def a_b (ix : Int → Int) (d : Int → Bool) : Nat → Int → Int
  | 0, _ => 0
  | k + 1, q => (if d (ix q) = true then 4096 + pw2 (ix q) else 0) + a_b ix d k (q + 1)
theorem a_b_s {ix : Int → Int} {d : Int → Bool} {k : Nat} {q : Int} : a_b ix d (k + 1) q = (if d (ix q) = true then 4096 + pw2 (ix q) else 0) + a_b ix d k (q + 1) := rfl
theorem a_b_sum {ix : Int → Int} {d : Int → Bool} : ∀ (k : Nat) (q : Int), a_b ix d k q = m_sum (fun i => if d (ix (q + i)) = true then 4096 + pw2 (ix (q + i)) else 0) k
  | 0, q => rfl
  | k + 1, q => by
    rw [a_b_s, m_sum_f, a_b_sum k (q + 1)]
    rw [Int.add_zero]
    congr 1
    refine m_sum_c _ (fun i hi => ?_)
    rw [show q + 1 + (i : Int) = q + ((i : Int) + 1) by omega]
theorem a_b_c {ix : Int → Int} {d d' : Int → Bool} : ∀ (k : Nat) (q : Int), (∀ j, q ≤ j → j < q + k → d (ix j) = d' (ix j)) → a_b ix d k q = a_b ix d' k q
  | 0, q, _ => rfl
  | k + 1, q, h => by
    rw [a_b_s, a_b_s, h q (by omega) (by omega), a_b_c k (q + 1) (fun j a b => h j (by omega) (by omega))]
/-- both sides from member q on -/
def a_v (T1 T2 : Int) (v1 v2 ix : Int → Int) (d : Int → Bool) (k : Nat) (q l r : Int) : Int := a_g T1 v1 (fun q => d (ix q)) k q l + a_g T2 v2 (fun q => !d (ix q)) k q r
def a_e (T1 T2 : Int) (v1 v2 ix : Int → Int) (d : Int → Bool) (k : Nat) (q l r : Int) : Int := 65536 * a_v T1 T2 v1 v2 ix d k q l r + a_b ix d k q
theorem a_e_c {T1 T2 : Int} {v1 v2 ix : Int → Int} {d d' : Int → Bool} {k : Nat} {q l r : Int} (h : ∀ j, q ≤ j → j < q + k → d (ix j) = d' (ix j)) : a_e T1 T2 v1 v2 ix d k q l r = a_e T1 T2 v1 v2 ix d' k q l r := by
  unfold a_e a_v
  rw [a_b_c k q h, a_g_c (c := fun q => d (ix q)) (c' := fun q => d' (ix q)) k q l h, a_g_c (c := fun q => !d (ix q)) (c' := fun q => !d' (ix q)) k q r (fun j a b => by
    show (!d (ix j)) = (!d' (ix j))
    rw [h j a b])]
/-- one member's ways: kind, from l r to l' r', at a price -/
def a_tr (T1 T2 L1 L2 B : Int) (kd l r l' r' p : Int) : Prop :=
  (kd = 1 ∧ l < T1 ∧ l' = l + 1 ∧ r' = r ∧ p = B + 65536) ∨ (kd = 2 ∧ r < T2 ∧ l' = l ∧ r' = r + 1 ∧ p = 65536) ∨ (kd = 3 ∧ l ≤ L1 ∧ l' = L1 + 1 ∧ r' = r ∧ p = B) ∨ (kd = 4 ∧ r ≤ L2 ∧ l' = l ∧ r' = L2 + 1 ∧ p = 0)
/-- the best way of the given choice -/
theorem a_way {T1 T2 : Int} {v1 v2 ix : Int → Int} {d : Int → Bool} {k : Nat} {q l r : Int} (h : a_v T1 T2 v1 v2 ix d (k + 1) q l r < 1000) : ∃ kd l' r' p, a_tr T1 T2 (v1 q) (v2 q) (4096 + pw2 (ix q)) kd l r l' r' p ∧ a_e T1 T2 v1 v2 ix d (k + 1) q l r = p + a_e T1 T2 v1 v2 ix d k (q + 1) l' r' ∧ a_v T1 T2 v1 v2 ix d k (q + 1) l' r' < 1000 := by
  unfold a_e
  unfold a_v at h ⊢
  rw [a_b_s]
  have z1 := a_g_s (T := T1) (lv := v1) (c := fun q => d (ix q)) (k := k) (q := q) (l := l)
  have z2 := a_g_s (T := T2) (lv := v2) (c := fun q => !d (ix q)) (k := k) (q := q) (l := r)
  have n1 := fun l => a_g_0 (T := T1) (lv := v1) (c := fun q => d (ix q)) k (q + 1) l
  have n2 := fun l => a_g_0 (T := T2) (lv := v2) (c := fun q => !d (ix q)) k (q + 1) l
  have n3 := a_g_0 (T := T1) (lv := v1) (c := fun q => d (ix q)) (k + 1) q l
  have n4 := a_g_0 (T := T2) (lv := v2) (c := fun q => !d (ix q)) (k + 1) q r
  cases hd : d (ix q)
  · simp only [hd, Bool.not_false, if_true] at z1 z2
    rw [if_neg (show ¬ (false = true) by decide)] at z1
    rw [if_neg (show ¬ (false = true) by decide)]
    rw [z1, z2] at h ⊢
    have na := n1 l
    have nb := n2 (r + 1)
    have nc := n2 (v2 q + 1)
    by_cases c1 : r < T2
    · rw [if_pos c1] at h ⊢
      by_cases c2 : r ≤ v2 q
      · rw [if_pos c2] at h ⊢
        by_cases c3 : 1 + a_g T2 v2 (fun q => !d (ix q)) k (q + 1) (r + 1) ≤ a_g T2 v2 (fun q => !d (ix q)) k (q + 1) (v2 q + 1)
        · exact ⟨2, l, r + 1, 65536, Or.inr (Or.inl ⟨rfl, c1, rfl, rfl, rfl⟩), by omega, by omega⟩
        · exact ⟨4, l, v2 q + 1, 0, Or.inr (Or.inr (Or.inr ⟨rfl, c2, rfl, rfl, rfl⟩)), by omega, by omega⟩
      · rw [if_neg c2] at h ⊢
        exact ⟨2, l, r + 1, 65536, Or.inr (Or.inl ⟨rfl, c1, rfl, rfl, rfl⟩), by omega, by omega⟩
    · rw [if_neg c1] at h ⊢
      by_cases c2 : r ≤ v2 q
      · rw [if_pos c2] at h ⊢
        exact ⟨4, l, v2 q + 1, 0, Or.inr (Or.inr (Or.inr ⟨rfl, c2, rfl, rfl, rfl⟩)), by omega, by omega⟩
      · rw [if_neg c2] at h
        omega
  · simp only [hd, Bool.not_true, if_true] at z1 z2
    rw [if_neg (show ¬ (false = true) by decide)] at z2
    rw [if_pos rfl]
    rw [z1, z2] at h ⊢
    have na := n2 r
    have nb := n1 (l + 1)
    have nc := n1 (v1 q + 1)
    by_cases c1 : l < T1
    · rw [if_pos c1] at h ⊢
      by_cases c2 : l ≤ v1 q
      · rw [if_pos c2] at h ⊢
        by_cases c3 : 1 + a_g T1 v1 (fun q => d (ix q)) k (q + 1) (l + 1) ≤ a_g T1 v1 (fun q => d (ix q)) k (q + 1) (v1 q + 1)
        · exact ⟨1, l + 1, r, _, Or.inl ⟨rfl, c1, rfl, rfl, rfl⟩, by omega, by omega⟩
        · exact ⟨3, v1 q + 1, r, _, Or.inr (Or.inr (Or.inl ⟨rfl, c2, rfl, rfl, rfl⟩)), by omega, by omega⟩
      · rw [if_neg c2] at h ⊢
        exact ⟨1, l + 1, r, _, Or.inl ⟨rfl, c1, rfl, rfl, rfl⟩, by omega, by omega⟩
    · rw [if_neg c1] at h ⊢
      by_cases c2 : l ≤ v1 q
      · rw [if_pos c2] at h ⊢
        exact ⟨3, v1 q + 1, r, _, Or.inr (Or.inr (Or.inl ⟨rfl, c2, rfl, rfl, rfl⟩)), by omega, by omega⟩
      · rw [if_neg c2] at h
        omega
/-- no way beats the best -/
theorem a_any {T1 T2 : Int} {v1 v2 ix : Int → Int} {d : Int → Bool} {k : Nat} {q l r kd l' r' p : Int} (h : a_tr T1 T2 (v1 q) (v2 q) (4096 + pw2 (ix q)) kd l r l' r' p) (hd : d (ix q) = true ↔ kd = 1 ∨ kd = 3) : a_e T1 T2 v1 v2 ix d (k + 1) q l r ≤ p + a_e T1 T2 v1 v2 ix d k (q + 1) l' r' := by
  unfold a_e a_v
  rw [a_b_s]
  have z1 := a_g_s (T := T1) (lv := v1) (c := fun q => d (ix q)) (k := k) (q := q) (l := l)
  have z2 := a_g_s (T := T2) (lv := v2) (c := fun q => !d (ix q)) (k := k) (q := q) (l := r)
  cases hdv : d (ix q)
  · have nk : ¬ (kd = 1 ∨ kd = 3) := fun x => by
      have := hd.mpr x
      rw [hdv] at this
      cases this
    simp only [hdv, Bool.not_false, if_true] at z1 z2
    rw [if_neg (show ¬ (false = true) by decide)] at z1
    rw [if_neg (show ¬ (false = true) by decide)]
    rw [z1, z2]
    rcases h with ⟨h1, h2, h3, h4, h5⟩ | ⟨h1, h2, h3, h4, h5⟩ | ⟨h1, h2, h3, h4, h5⟩ | ⟨h1, h2, h3, h4, h5⟩
    · omega
    · rw [h3, h4, h5, if_pos h2]
      split <;> omega
    · omega
    · rw [h3, h4, h5, if_pos h2]
      split <;> omega
  · have nk := hd.mp hdv
    simp only [hdv, Bool.not_true, if_true] at z1 z2
    rw [if_neg (show ¬ (false = true) by decide)] at z2
    rw [if_pos rfl]
    rw [z1, z2]
    rcases h with ⟨h1, h2, h3, h4, h5⟩ | ⟨h1, h2, h3, h4, h5⟩ | ⟨h1, h2, h3, h4, h5⟩ | ⟨h1, h2, h3, h4, h5⟩
    · rw [h3, h4, h5, if_pos h2]
      split <;> omega
    · omega
    · rw [h3, h4, h5, if_pos h2]
      split <;> omega
    · omega
/-- the table after q members -/
def a_I (T1 T2 : Int) (v1 v2 ix : Int → Int) (M : Nat) (k q : Nat) (t : Int → Int → Int) : Prop :=
  (∀ d, a_v T1 T2 v1 v2 ix d M 0 0 0 < 1000 → ∃ l r, 0 ≤ l ∧ l ≤ T1 ∧ 0 ≤ r ∧ r ≤ T2 ∧ t l r < 1073741824 ∧ a_v T1 T2 v1 v2 ix d k q l r < 1000 ∧ t l r + a_e T1 T2 v1 v2 ix d k q l r ≤ a_e T1 T2 v1 v2 ix d M 0 0 0) ∧
  (∀ l r, 0 ≤ l → l ≤ T1 → 0 ≤ r → r ≤ T2 → t l r < 1073741824 → ∀ d, ∃ d', a_e T1 T2 v1 v2 ix d' M 0 0 0 ≤ t l r + a_e T1 T2 v1 v2 ix d k q l r) ∧
  (∀ l r, 0 ≤ l → l ≤ T1 → 0 ≤ r → r ≤ T2 → t l r = 1073741824 ∨ (0 ≤ t l r ∧ t l r ≤ 80000 * q))
theorem a_tr_b {T1 T2 L1 L2 B kd l r l' r' p : Int} (h : a_tr T1 T2 L1 L2 B kd l r l' r' p) (hl : 0 ≤ l ∧ l ≤ T1) (hr : 0 ≤ r ∧ r ≤ T2) (h1 : L1 < T1) (h2 : L2 < T2) (hB : 0 ≤ B ∧ B ≤ 14000) : (0 ≤ l' ∧ l' ≤ T1) ∧ (0 ≤ r' ∧ r' ≤ T2) ∧ 0 ≤ p ∧ p ≤ 80000 := by
  rcases h with h | h | h | h <;> omega
theorem a_I_0 {T1 T2 : Int} {v1 v2 ix : Int → Int} {M : Nat} {t : Int → Int → Int} (h1 : 0 ≤ T1) (h2 : 0 ≤ T2) (h0 : t 0 0 = 0) (h : ∀ l r, 0 ≤ l → l ≤ T1 → 0 ≤ r → r ≤ T2 → (l ≠ 0 ∨ r ≠ 0) → t l r = 1073741824) : a_I T1 T2 v1 v2 ix M M 0 t := by
  refine ⟨fun d hd => ⟨0, 0, by omega, h1, by omega, h2, by omega, hd, ?_⟩, fun l r a b c e f d => ⟨d, ?_⟩, fun l r a b c e => ?_⟩
  · rw [h0]
    show 0 + a_e T1 T2 v1 v2 ix d M 0 0 0 ≤ _
    omega
  · by_cases x : l ≠ 0 ∨ r ≠ 0
    · have := h l r a b c e x
      omega
    · have e1 : l = 0 := by omega
      have e2 : r = 0 := by omega
      subst e1 e2
      rw [h0]
      show _ ≤ 0 + a_e T1 T2 v1 v2 ix d M 0 0 0
      omega
  · by_cases x : l ≠ 0 ∨ r ≠ 0
    · exact Or.inl (h l r a b c e x)
    · have e1 : l = 0 := by omega
      have e2 : r = 0 := by omega
      subst e1 e2
      omega
theorem a_I_s {T1 T2 : Int} {v1 v2 ix : Int → Int} {M k q : Nat} {t nt : Int → Int → Int} (hM : q + (k + 1) = M) (hM2 : M ≤ 12) (hv1 : v1 q < T1) (hv2 : v2 q < T2) (hx : 0 ≤ ix q ∧ ix q < 12) (inj : ∀ j : Int, (q : Int) < j → j < M → ix j ≠ ix q)
    (h : a_I T1 T2 v1 v2 ix M (k + 1) q t)
    (P1 : ∀ l r, 0 ≤ l → l ≤ T1 → 0 ≤ r → r ≤ T2 → t l r < 1073741824 → ∀ kd l' r' p, a_tr T1 T2 (v1 q) (v2 q) (4096 + pw2 (ix q)) kd l r l' r' p → nt l' r' ≤ t l r + p)
    (P2 : ∀ l' r', 0 ≤ l' → l' ≤ T1 → 0 ≤ r' → r' ≤ T2 → nt l' r' = 1073741824 ∨ ∃ l r kd p, 0 ≤ l ∧ l ≤ T1 ∧ 0 ≤ r ∧ r ≤ T2 ∧ t l r < 1073741824 ∧ a_tr T1 T2 (v1 q) (v2 q) (4096 + pw2 (ix q)) kd l r l' r' p ∧ nt l' r' = t l r + p) : a_I T1 T2 v1 v2 ix M k (q + 1 : Nat) nt := by
  obtain ⟨A, Bb, C⟩ := h
  have pb := pw2_le (j := ix q) (by omega)
  have pp := pw2_pos (ix q)
  refine ⟨fun d hd => ?_, fun l' r' a b c e f d => ?_, fun l' r' a b c e => ?_⟩
  · obtain ⟨l, r, a1, a2, a3, a4, a5, a6, a7⟩ := A d hd
    obtain ⟨kd, l', r', p, w1, w2, w3⟩ := a_way a6
    have tb := a_tr_b w1 ⟨a1, a2⟩ ⟨a3, a4⟩ hv1 hv2 (by omega)
    have n1 := P1 l r a1 a2 a3 a4 a5 kd l' r' p w1
    have cc := C l r a1 a2 a3 a4
    rw [show ((q + 1 : Nat) : Int) = (q : Int) + 1 by omega]
    exact ⟨l', r', tb.1.1, tb.1.2, tb.2.1.1, tb.2.1.2, by omega, w3, by omega⟩
  · rcases P2 l' r' a b c e with x | ⟨l, r, kd, p, a1, a2, a3, a4, a5, a6, a7⟩
    · omega
    · obtain ⟨d', hd'⟩ := Bb l r a1 a2 a3 a4 a5 (fun j => if j = ix q then decide (kd = 1 ∨ kd = 3) else d j)
      have an := a_any (d := fun j => if j = ix q then decide (kd = 1 ∨ kd = 3) else d j) (k := k) a6 (by rw [if_pos rfl]; exact decide_eq_true_iff)
      have ec := a_e_c (T1 := T1) (T2 := T2) (v1 := v1) (v2 := v2) (ix := ix) (d := fun j => if j = ix q then decide (kd = 1 ∨ kd = 3) else d j) (d' := d) (k := k) (q := q + 1) (l := l') (r := r') (fun j h0 h1 => if_neg (inj j (by omega) (by omega)))
      rw [show ((q + 1 : Nat) : Int) = (q : Int) + 1 by omega]
      exact ⟨d', by omega⟩
  · rcases P2 l' r' a b c e with x | ⟨l, r, kd, p, a1, a2, a3, a4, a5, a6, a7⟩
    · exact Or.inl x
    · have tb := a_tr_b a6 ⟨a1, a2⟩ ⟨a3, a4⟩ hv1 hv2 (by omega)
      have cc := C l r a1 a2 a3 a4
      right
      omega
/-- what the sets say -/
def a_V (T1 T2 : Int) (v1 v2 ix : Int → Int) (M : Nat) (S : Int) : Int := a_v T1 T2 v1 v2 ix (fun j => decide (bt S j = 1)) M 0 0 0
def a_bits (S : Int) (M : Nat) : Int := m_sum (bt S) M
def a_res (T1 T2 : Int) (v1 v2 ix : Int → Int) (M : Nat) (best sg : Int) : Prop :=
  (best = -2 ∧ ∀ S, 0 ≤ S → S < pw2 M → 1000 ≤ a_V T1 T2 v1 v2 ix M S) ∨
  ((0 ≤ sg ∧ sg < pw2 M) ∧ a_V T1 T2 v1 v2 ix M sg < 1000 ∧ best = a_V T1 T2 v1 v2 ix M sg ∧ ∀ S, 0 ≤ S → S < pw2 M → a_V T1 T2 v1 v2 ix M S < 1000 → 65536 * a_V T1 T2 v1 v2 ix M sg + 4096 * a_bits sg M + sg ≤ 65536 * a_V T1 T2 v1 v2 ix M S + 4096 * a_bits S M + S)
theorem a_V_0 {T1 T2 : Int} {v1 v2 ix : Int → Int} {M : Nat} {S : Int} : 0 ≤ a_V T1 T2 v1 v2 ix M S := by
  unfold a_V a_v
  exact Int.add_nonneg (a_g_0 _ _ _) (a_g_0 _ _ _)
theorem a_bits_b {S : Int} {M : Nat} : 0 ≤ a_bits S M ∧ a_bits S M ≤ M := by
  have := m_sum_b (P := bt S) (lo := 0) (hi := 1) M (fun i _ => by
    have := bt_b S i
    omega)
  unfold a_bits
  omega
theorem a_pm {M : Nat} (h : M ≤ 12) : pw2 M ≤ 4096 := pw2_le (by omega)
/-- only one answer -/
theorem a_res_u {T1 T2 : Int} {v1 v2 ix : Int → Int} {M : Nat} (hM : M ≤ 12) {best sg best' sg' : Int} (h : a_res T1 T2 v1 v2 ix M best sg) (h' : a_res T1 T2 v1 v2 ix M best' sg') : best = best' ∧ (0 ≤ best → sg = sg') := by
  have pm := a_pm hM
  have z1 := a_V_0 (T1 := T1) (T2 := T2) (v1 := v1) (v2 := v2) (ix := ix) (M := M) (S := sg)
  have z2 := a_V_0 (T1 := T1) (T2 := T2) (v1 := v1) (v2 := v2) (ix := ix) (M := M) (S := sg')
  have y1 := a_bits_b (S := sg) (M := M)
  have y2 := a_bits_b (S := sg') (M := M)
  rcases h with ⟨h1, h2⟩ | ⟨h1, h2, h3, h4⟩
  · rcases h' with ⟨g1, g2⟩ | ⟨g1, g2, g3, g4⟩
    · exact ⟨by omega, fun _ => by omega⟩
    · have := h2 sg' g1.1 g1.2
      omega
  · rcases h' with ⟨g1, g2⟩ | ⟨g1, g2, g3, g4⟩
    · have := g2 sg h1.1 h1.2
      omega
    · have e1 := h4 sg' g1.1 g1.2 g2
      have e2 := g4 sg h1.1 h1.2 h2
      omega
theorem a_e_set {T1 T2 : Int} {v1 v2 ix : Int → Int} {M : Nat} (h1 : ∀ q : Nat, q < M → 0 ≤ ix q ∧ ix q < M) (h2 : ∀ j : Nat, j < M → ∃ q : Nat, q < M ∧ ix q = j) (h3 : ∀ q q' : Nat, q < M → q' < M → ix q = ix q' → q = q') {S : Int} (hS : 0 ≤ S ∧ S < pw2 M) : a_e T1 T2 v1 v2 ix (fun j => decide (bt S j = 1)) M 0 0 0 = 65536 * a_V T1 T2 v1 v2 ix M S + 4096 * a_bits S M + S := by
  unfold a_e
  rw [a_b_sum]
  have e1 := m_sum_perm h1 h2 h3 (fun j => if decide (bt S j = 1) = true then 4096 + pw2 j else 0)
  have e2 : m_sum (fun j => if decide (bt S j = 1) = true then 4096 + pw2 j else 0) M = m_sum (fun j => 4096 * bt S j + if bt S j = 1 then pw2 j else 0) M := by
    refine m_sum_c _ (fun i hi => ?_)
    try dsimp only
    rcases bt_b S i with x | x <;> rw [x] <;> rfl
  have e3 : ∀ n : Nat, m_sum (fun j => 4096 * bt S j) n = 4096 * a_bits S n := by
    intro n
    induction n with
    | zero => rfl
    | succ n ih =>
      unfold a_bits at ih ⊢
      rw [m_sum_s, m_sum_s, ih]
      omega
  have e4 := bt_sum hS.1 M
  rw [Int.emod_eq_of_lt hS.1 hS.2] at e4
  rw [m_sum_add, e3, e4] at e2
  rw [e2] at e1
  have e5 : m_sum (fun i => if decide (bt S (ix (0 + i)) = 1) = true then 4096 + pw2 (ix (0 + i)) else 0) M = m_sum (fun q => if decide (bt S (ix q) = 1) = true then 4096 + pw2 (ix q) else 0) M := m_sum_c _ (fun i _ => by rw [Int.zero_add])
  rw [e5, e1]
  unfold a_V
  omega
theorem a_fin {T1 T2 : Int} {v1 v2 ix : Int → Int} {M : Nat} (hM : M ≤ 12) (h1 : ∀ q : Nat, q < M → 0 ≤ ix q ∧ ix q < M) (h2 : ∀ j : Nat, j < M → ∃ q : Nat, q < M ∧ ix q = j) (h3 : ∀ q q' : Nat, q < M → q' < M → ix q = ix q' → q = q') {t : Int → Int → Int} (hI : a_I T1 T2 v1 v2 ix M 0 M t) {L : Int}
    (hL : ∀ l r, 0 ≤ l → l ≤ T1 → 0 ≤ r → r ≤ T2 → L ≤ t l r) (hL2 : L = 1073741824 ∨ ∃ l r, 0 ≤ l ∧ l ≤ T1 ∧ 0 ≤ r ∧ r ≤ T2 ∧ L = t l r) :
    (L = 1073741824 ∧ a_res T1 T2 v1 v2 ix M (-2) 0) ∨ ((0 ≤ L ∧ L < 1073741824) ∧ a_res T1 T2 v1 v2 ix M (L / 65536) (L % 4096)) := by
  obtain ⟨A, Bb, C⟩ := hI
  have pm := a_pm hM
  have cost := fun {S} hS => a_e_set (T1 := T1) (T2 := T2) (v1 := v1) (v2 := v2) h1 h2 h3 (S := S) hS
  have zz : ∀ d l r, a_e T1 T2 v1 v2 ix d 0 M l r = 0 := fun d l r => rfl
  have low : ∀ S, 0 ≤ S → S < pw2 M → a_V T1 T2 v1 v2 ix M S < 1000 → L < 1073741824 ∧ L ≤ 65536 * a_V T1 T2 v1 v2 ix M S + 4096 * a_bits S M + S := by
    intro S s0 s1 hv
    obtain ⟨l, r, a1, a2, a3, a4, a5, a6, a7⟩ := A _ hv
    rw [zz, cost ⟨s0, s1⟩] at a7
    have := hL l r a1 a2 a3 a4
    omega
  by_cases hN : L = 1073741824
  · left
    refine ⟨hN, Or.inl ⟨rfl, fun S s0 s1 => ?_⟩⟩
    apply Decidable.byContradiction
    intro x
    have := low S s0 s1 (by omega)
    omega
  · right
    rcases hL2 with x | ⟨l, r, a1, a2, a3, a4, a5⟩
    · exact absurd x hN
    · have cc := C l r a1 a2 a3 a4
      obtain ⟨d', hd'⟩ := Bb l r a1 a2 a3 a4 (by omega) (fun _ => true)
      rw [zz] at hd'
      have mb := a_mk_b (d := d') M
      have em : a_e T1 T2 v1 v2 ix d' M 0 0 0 = a_e T1 T2 v1 v2 ix (fun j => decide (bt (a_mk d' M) j = 1)) M 0 0 0 := by
        refine a_e_c (fun j h0 h1' => ?_)
        have hj := h1 j.toNat (by omega)
        rw [show ((j.toNat : Nat) : Int) = j by omega] at hj
        have b := bt_mk (d := d') M (ix j).toNat (by omega)
        rw [show (((ix j).toNat : Nat) : Int) = ix j by omega] at b
        rw [b]
        cases d' (ix j) <;> rfl
      rw [em, cost mb] at hd'
      have vb := a_V_0 (T1 := T1) (T2 := T2) (v1 := v1) (v2 := v2) (ix := ix) (M := M) (S := a_mk d' M)
      have bb := a_bits_b (S := a_mk d' M) (M := M)
      have lo := low (a_mk d' M) mb.1 mb.2 (by omega)
      have eL : L = 65536 * a_V T1 T2 v1 v2 ix M (a_mk d' M) + 4096 * a_bits (a_mk d' M) M + a_mk d' M := by omega
      have e1 : L / 65536 = a_V T1 T2 v1 v2 ix M (a_mk d' M) := by omega
      have e2 : L % 4096 = a_mk d' M := by omega
      refine ⟨by omega, Or.inr ?_⟩
      rw [e1, e2]
      refine ⟨mb, by omega, rfl, fun S s0 s1 hv => ?_⟩
      have := low S s0 s1 hv
      omega
end
