section
/-! rules: the class's code against the reference's -/
abbrev b2i (p : Bool) : Int := if p then 1 else 0
def cw (o : Int) : Int := if o = 300 then 20010 else if o = 301 then 20011 else if o = 302 then 20013 else 20012
abbrev r_mid (F : m_F) (from' k : Int) : Prop := from' < k ∧ m_lr F k = m_lr F (k - 1)
/-- the class's words of the literals from k on, n of them, in the places j .. e -/
def r_rel (c : Int → Int) (F : m_F) (from' : Int) : Nat → Int → Int → Int → Prop
  | 0, _, j, e => j = e
  | n + 1, k, j, e => ∃ j1 j2 j3 j4, j1 = j + (m_lb F k - m_la F k) + (m_lc F k - m_lb F k) + 1 ∧ (∀ i, 0 ≤ i → i < m_lb F k - m_la F k → c (j + i) = m_fc F (m_la F k + i)) ∧ (∀ i, 0 ≤ i → i < m_lc F k - m_lb F k → c (j + (m_lb F k - m_la F k) + i) = m_fc F (m_lb F k + i)) ∧ c (j1 - 1) = cw (m_lo F k) ∧
      (m_ln F k = 1 → c j1 = 20036 ∧ j2 = j1 + 1) ∧ (m_ln F k ≠ 1 → j2 = j1) ∧ (r_mid F from' k → c j2 = 20035 ∧ j3 = j2 + 1) ∧ (¬ r_mid F from' k → j3 = j2) ∧
      ((n = 0 ∨ m_lr F (k + 1) ≠ m_lr F k) ∧ m_lr F k ≠ m_lr F from' → c j3 = 20034 ∧ j4 = j3 + 1) ∧ (¬ ((n = 0 ∨ m_lr F (k + 1) ≠ m_lr F k) ∧ m_lr F k ≠ m_lr F from') → j4 = j3) ∧ r_rel c F from' n (k + 1) j4 e
theorem r_rel_le {c : Int → Int} {F : m_F} {from' e : Int} : ∀ (n : Nat) (k j : Int), (∀ i, k ≤ i → i < k + n → m_lok F i) → r_rel c F from' n k j e → j ≤ e
  | 0, k, j, _, h => by have h : j = e := h; omega
  | n + 1, k, j, hl, h => by
    obtain ⟨j1, j2, j3, j4, h1, -, -, -, h5, h6, h7, h8, h9, h10, h11⟩ := h
    have := r_rel_le n (k + 1) j4 (fun i a b => hl i (by omega) (by omega)) h11
    obtain ⟨-, -, A, B⟩ := hl k (Int.le_refl _) (by omega)
    have a2 := A.2.1
    have b2 := B.2.1
    by_cases c1 : m_ln F k = 1 <;> by_cases c2 : r_mid F from' k <;> by_cases c3 : ((n = 0 ∨ m_lr F (k + 1) ≠ m_lr F k) ∧ m_lr F k ≠ m_lr F from')
    all_goals
      first | have := (h5 c1).2 | have := h6 c1
      first | have := (h7 c2).2 | have := h8 c2
      first | have := (h9 c3).2 | have := h10 c3
      omega
theorem g_dec_and (p q fl : Bool) : g_dec 20035 (b2i p) (b2i q) fl = (p && q) := by
  cases p <;> cases q <;> cases fl <;> decide
theorem g_dec_or (p q fl : Bool) : g_dec 20034 (b2i p) (b2i q) fl = (p || q) := by
  cases p <;> cases q <;> cases fl <;> decide
theorem g_dec_f {o x y : Int} (ho : o = 300 ∨ o = 301 ∨ o = 302 ∨ o = 60) : g_dec (cw o) x y true = false ∧ g_dec (cw o) x y false = m_cmpv o x y := by
  unfold g_dec cw m_cmpv
  rcases ho with rfl | rfl | rfl | rfl <;> simp
theorem cw_b {o : Int} (ho : o = 300 ∨ o = 301 ∨ o = 302 ∨ o = 60) : 20010 ≤ cw o ∧ cw o ≤ 20013 := by
  unfold cw
  rcases ho with rfl | rfl | rfl | rfl <;> decide
section RU
variable {c vars : Int → Int} {F : m_F} {e : Int}
/-- one word of the two-place kinds that decide -/
theorem g_one {j x y : Int} {st : List Int} {fl : Bool} (hj : j < e) (hc : 20010 ≤ c j ∧ c j ≠ 20036) : g_ev c vars (e - j).toNat j (y :: x :: st) fl = g_ev c vars (e - (j + 1)).toNat (j + 1) (b2i (g_dec (c j) x y fl) :: st) false := by
  rw [show (e - j).toNat = (e - (j + 1)).toNat + 1 by omega, g_ev_s, if_neg (by omega), if_neg (by omega), if_neg hc.2]
  dsimp only
  rw [if_neg (by omega)]
theorem g_not {j : Int} {p : Bool} {st : List Int} {fl : Bool} (hj : j < e) (hc : c j = 20036) : g_ev c vars (e - j).toNat j (b2i p :: st) fl = g_ev c vars (e - (j + 1)).toNat (j + 1) (b2i (!p) :: st) fl := by
  rw [show (e - j).toNat = (e - (j + 1)).toNat + 1 by omega, g_ev_s, if_neg (by omega), if_neg (by omega), if_pos hc]
  dsimp only
  cases p <;> rfl
theorem g_lit {k j j1 j2 : Int} {st : List Int} (hl : m_lok F k) (h1 : j1 = j + (m_lb F k - m_la F k) + (m_lc F k - m_lb F k) + 1) (h2 : ∀ i, 0 ≤ i → i < m_lb F k - m_la F k → c (j + i) = m_fc F (m_la F k + i)) (h3 : ∀ i, 0 ≤ i → i < m_lc F k - m_lb F k → c (j + (m_lb F k - m_la F k) + i) = m_fc F (m_lb F k + i)) (h4 : c (j1 - 1) = cw (m_lo F k))
    (h5 : m_ln F k = 1 → c j1 = 20036 ∧ j2 = j1 + 1) (h6 : m_ln F k ≠ 1 → j2 = j1) (he : j2 ≤ e) : g_ev c vars (e - j).toNat j st false = g_ev c vars (e - j2).toNat j2 (b2i (m_litv F vars k) :: st) false := by
  obtain ⟨ln, lo, A, B⟩ := hl
  have a2 := A.2.1
  have b2 := B.2.1
  have hj1 : j1 ≤ e := by
    by_cases x : m_ln F k = 1
    · have := (h5 x).2; omega
    · have := h6 x; omega
  have hcw := cw_b lo
  have hdec := fun x y => g_dec_f (x := x) (y := y) lo
  -- the two formulas
  have sa := g_seg (c := c) (vars := vars) (m := (e - (j + (m_lb F k - m_la F k))).toNat) (st0 := st) (m_lb F k - m_la F k).toNat j (m_la F k) [] (fun i x y => h2 i x (by omega)) A.2.2.2.2
  have ea : (m_lb F k - m_la F k).toNat + (e - (j + (m_lb F k - m_la F k))).toNat = (e - j).toNat := by omega
  have eja : j + (((m_lb F k - m_la F k).toNat : Nat) : Int) = j + (m_lb F k - m_la F k) := by omega
  rw [ea, eja, List.nil_append] at sa
  have sb := fun st0 => g_seg (c := c) (vars := vars) (m := (e - (j1 - 1)).toNat) (st0 := st0) (m_lc F k - m_lb F k).toNat (j + (m_lb F k - m_la F k)) (m_lb F k) [] (fun i x y => h3 i x (by omega)) B.2.2.2.2
  have eb : (m_lc F k - m_lb F k).toNat + (e - (j1 - 1)).toNat = (e - (j + (m_lb F k - m_la F k))).toNat := by omega
  have ejb : j + (m_lb F k - m_la F k) + (((m_lc F k - m_lb F k).toNat : Nat) : Int) = j1 - 1 := by omega
  simp only [eb, ejb, List.nil_append] at sb
  -- behind the comparison
  have fin : ∀ p : Bool, m_litv F vars k = (p != decide (m_ln F k = 1)) → g_ev c vars (e - j1).toNat j1 (b2i p :: st) false = g_ev c vars (e - j2).toNat j2 (b2i (m_litv F vars k) :: st) false := by
    intro p hp
    by_cases x : m_ln F k = 1
    · obtain ⟨y1, y2⟩ := h5 x
      rw [g_not (by omega) y1, hp, decide_eq_true x, y2]
      cases p <;> rfl
    · rw [h6 x, hp, decide_eq_false x]
      cases p <;> rfl
  have g1 := fun x y fl => g_one (c := c) (vars := vars) (e := e) (j := j1 - 1) (x := x) (y := y) (st := st) (fl := fl) (by omega) (by rw [h4]; omega)
  simp only [show j1 - 1 + 1 = j1 by omega, h4] at g1
  rcases f_ev_or (vars := vars) _ _ [] A.2.2.2.2 with ha | ⟨x, ha⟩
  · obtain ⟨z, hz⟩ := sa.2 ha false
    rw [hz]
    have hp : m_litv F vars k = (false != decide (m_ln F k = 1)) := by
      unfold m_litv
      rw [ha]
      dsimp only
      cases decide (m_ln F k = 1) <;> rfl
    rcases f_ev_or (vars := vars) _ _ [] B.2.2.2.2 with hb | ⟨y, hb⟩
    · obtain ⟨z2, hz2⟩ := (sb (z :: st)).2 hb true
      rw [hz2, g1, (hdec z z2).1]
      exact fin false hp
    · rw [(sb (z :: st)).1 y hb true, g1, (hdec z y).1]
      exact fin false hp
  · rw [sa.1 x ha false]
    rcases f_ev_or (vars := vars) _ _ [] B.2.2.2.2 with hb | ⟨y, hb⟩
    · obtain ⟨z2, hz2⟩ := (sb (x :: st)).2 hb false
      rw [hz2, g1, (hdec x z2).1]
      refine fin false ?_
      unfold m_litv
      rw [ha, hb]
      dsimp only
      cases decide (m_ln F k = 1) <;> rfl
    · rw [(sb (x :: st)).1 y hb false, g1, (hdec x y).2]
      refine fin _ ?_
      unfold m_litv
      rw [ha, hb]
theorem r_val {from' to' : Int} (hl : ∀ k, from' ≤ k → k < to' → m_lok F k) (hmo : ∀ k, from' ≤ k → k + 1 < to' → m_lr F k ≤ m_lr F (k + 1)) (hfr : ∀ k, from' ≤ k → k < to' → m_lr F from' ≤ m_lr F k) : ∀ (n : Nat) (k j : Int) (st : List Int) (acc cur : Bool), r_rel c F from' (n + 1) k j e → k + (n + 1 : Nat) = to' → from' ≤ k →
    ((¬ r_mid F from' k ∧ ((k = from' ∧ st = [] ∧ acc = false) ∨ (m_lr F k ≠ m_lr F from' ∧ st = [b2i acc])) ∧ cur = true) ∨ (r_mid F from' k ∧ ((m_lr F k = m_lr F from' ∧ st = [b2i cur] ∧ acc = false) ∨ (m_lr F k ≠ m_lr F from' ∧ st = [b2i cur, b2i acc])))) →
    g_ev c vars (e - j).toNat j st false = ([b2i (acc || m_h (m_litv F vars) (m_lr F) (n + 1) k (m_lr F k) cur)], false) := by
  intro n
  induction n with
  | zero =>
    intro k j st acc cur h hk hfk hs
    obtain ⟨j1, j2, j3, j4, h1, h2, h3, h4, h5, h6, h7, h8, h9, h10, h11⟩ := h
    have h11 : j4 = e := h11
    subst h11
    have j34 : j3 ≤ j4 := by
      by_cases x : ((0 = 0 ∨ m_lr F (k + 1) ≠ m_lr F k) ∧ m_lr F k ≠ m_lr F from')
      · have := (h9 x).2; omega
      · have := h10 x; omega
    have j23 : j2 ≤ j3 := by
      by_cases x : r_mid F from' k
      · have := (h7 x).2; omega
      · have := h8 x; omega
    rw [g_lit (hl k hfk (by omega)) h1 h2 h3 h4 h5 h6 (by omega)]
    have mh : m_h (m_litv F vars) (m_lr F) (0 + 1) k (m_lr F k) cur = (cur && m_litv F vars k) := by
      show (if m_lr F k = m_lr F k then _ else _) = _
      rw [if_pos rfl]
      rfl
    rw [mh]
    -- the row's end
    have last : ∀ (c' : Bool), ((m_lr F k = m_lr F from' ∧ acc = false) → g_ev c vars (j4 - j3).toNat j3 [b2i c'] false = ([b2i (acc || c')], false)) ∧ (m_lr F k ≠ m_lr F from' → g_ev c vars (j4 - j3).toNat j3 [b2i c', b2i acc] false = ([b2i (acc || c')], false)) := by
      intro c'
      refine ⟨fun x => ?_, fun x => ?_⟩
      · rw [h10 (fun y => y.2 x.1), x.2, show (j3 - j3).toNat = 0 by omega]
        rfl
      · obtain ⟨y1, y2⟩ := h9 ⟨Or.inl rfl, x⟩
        rw [g_one (by omega) (by omega), y1, g_dec_or, y2, show (j3 + 1 - (j3 + 1)).toNat = 0 by omega]
        rfl
    rcases hs with ⟨m1, m2, m3⟩ | ⟨m1, m2⟩
    · rw [h8 m1] at last
      subst m3
      rw [Bool.true_and]
      rcases m2 with ⟨x1, x2, x3⟩ | ⟨x1, x2⟩
      · subst x2
        exact (last _).1 ⟨by rw [x1], x3⟩
      · subst x2
        exact (last _).2 x1
    · obtain ⟨y1, y2⟩ := h7 m1
      rcases m2 with ⟨x1, x2, x3⟩ | ⟨x1, x2⟩
      · subst x2
        rw [g_one (by omega) (by omega), y1, g_dec_and, ← y2]
        exact (last _).1 ⟨x1, x3⟩
      · subst x2
        rw [g_one (by omega) (by omega), y1, g_dec_and, ← y2]
        exact (last _).2 x1
  | succ n ih =>
    intro k j st acc cur h hk hfk hs
    obtain ⟨j1, j2, j3, j4, h1, h2, h3, h4, h5, h6, h7, h8, h9, h10, h11⟩ := h
    have hle := r_rel_le (n + 1) (k + 1) j4 (fun i a b => hl i (by omega) (by omega)) h11
    have j34 : j3 ≤ j4 := by
      by_cases x : ((n + 1 = 0 ∨ m_lr F (k + 1) ≠ m_lr F k) ∧ m_lr F k ≠ m_lr F from')
      · have := (h9 x).2; omega
      · have := h10 x; omega
    have j23 : j2 ≤ j3 := by
      by_cases x : r_mid F from' k
      · have := (h7 x).2; omega
      · have := h8 x; omega
    have mo := hmo k hfk (by omega)
    have mf := hfr k hfk (by omega)
    rw [g_lit (hl k hfk (by omega)) h1 h2 h3 h4 h5 h6 (by omega)]
    have mh : m_h (m_litv F vars) (m_lr F) (n + 1 + 1) k (m_lr F k) cur = m_h (m_litv F vars) (m_lr F) (n + 1) (k + 1) (m_lr F k) (cur && m_litv F vars k) := by
      show (if m_lr F k = m_lr F k then _ else _) = _
      rw [if_pos rfl]
    rw [mh]
    have ek : k + 1 - 1 = k := by omega
    have next : ∀ (c' : Bool), ((m_lr F k = m_lr F from' ∧ acc = false) → g_ev c vars (e - j3).toNat j3 [b2i c'] false = ([b2i (acc || m_h (m_litv F vars) (m_lr F) (n + 1) (k + 1) (m_lr F k) c')], false)) ∧ (m_lr F k ≠ m_lr F from' → g_ev c vars (e - j3).toNat j3 [b2i c', b2i acc] false = ([b2i (acc || m_h (m_litv F vars) (m_lr F) (n + 1) (k + 1) (m_lr F k) c')], false)) := by
      intro c'
      by_cases hr : m_lr F (k + 1) = m_lr F k
      · -- the row goes on
        have j4e := h10 (fun y => y.1.elim (fun z => by omega) (fun z => z hr))
        rw [j4e] at h11
        refine ⟨fun x => ?_, fun x => ?_⟩
        · have := ih (k + 1) j3 [b2i c'] acc c' h11 (by omega) (by omega) (Or.inr ⟨⟨by omega, by rw [ek]; exact hr⟩, Or.inl ⟨by rw [hr]; exact x.1, rfl, x.2⟩⟩)
          rw [hr] at this
          exact this
        · have := ih (k + 1) j3 [b2i c', b2i acc] acc c' h11 (by omega) (by omega) (Or.inr ⟨⟨by omega, by rw [ek]; exact hr⟩, Or.inr ⟨by rw [hr]; exact x, rfl⟩⟩)
          rw [hr] at this
          exact this
      · -- a new row
        have mh2 : m_h (m_litv F vars) (m_lr F) (n + 1) (k + 1) (m_lr F k) c' = (c' || m_h (m_litv F vars) (m_lr F) (n + 1) (k + 1) (m_lr F (k + 1)) true) := by
          show (if m_lr F (k + 1) = m_lr F k then _ else _) = (c' || (if m_lr F (k + 1) = m_lr F (k + 1) then _ else _))
          rw [if_neg hr, if_pos rfl, Bool.true_and]
        rw [mh2]
        have nm : ¬ r_mid F from' (k + 1) := fun y => hr (by have := y.2; rw [ek] at this; exact this)
        refine ⟨fun x => ?_, fun x => ?_⟩
        · have j4e := h10 (fun y => y.2 x.1)
          rw [j4e] at h11
          rw [x.2, Bool.false_or]
          exact ih (k + 1) j3 [b2i c'] c' true h11 (by omega) (by omega) (Or.inl ⟨nm, Or.inr ⟨by omega, rfl⟩, rfl⟩)
        · obtain ⟨y1, y2⟩ := h9 ⟨Or.inr hr, x⟩
          rw [g_one (by omega) (by omega), y1, g_dec_or, ← y2, ← Bool.or_assoc]
          exact ih (k + 1) j4 [b2i (acc || c')] (acc || c') true h11 (by omega) (by omega) (Or.inl ⟨nm, Or.inr ⟨by omega, rfl⟩, rfl⟩)
    rcases hs with ⟨m1, m2, m3⟩ | ⟨m1, m2⟩
    · rw [h8 m1] at next
      subst m3
      rw [Bool.true_and]
      rcases m2 with ⟨x1, x2, x3⟩ | ⟨x1, x2⟩
      · subst x2
        exact (next _).1 ⟨by rw [x1], x3⟩
      · subst x2
        exact (next _).2 x1
    · obtain ⟨y1, y2⟩ := h7 m1
      rcases m2 with ⟨x1, x2, x3⟩ | ⟨x1, x2⟩
      · subst x2
        rw [g_one (by omega) (by omega), y1, g_dec_and, ← y2]
        exact (next _).1 ⟨x1, x3⟩
      · subst x2
        rw [g_one (by omega) (by omega), y1, g_dec_and, ← y2]
        exact (next _).2 x1
end RU
end
