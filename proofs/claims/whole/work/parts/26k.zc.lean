section
/-! reading, the picture: conditions -/
/-- behind and or not, how often not (odd: 1), the comparison, its two sides -/
abbrev z_L : Type := Int × Int × Int × List Int × List Int
def z_no (K : Int → Int) : Nat → Int → Int → Int × Int × Int
  | 0, h, t => (1, h, t)
  | n + 1, h, t => if K h = 36 then (if 400 ≤ h then (2, h, t) else z_no K n (h + 1) (1 - t)) else (0, h, t)
def z_l0 : z_L := (0, 0, 10, [], [])
def z_lj (K V : Int → Int) (t aft : Int) (e : z_E) : Int × Int × z_L :=
  if e.1 ≠ 0 then (e.1, e.2.1, z_l0) else if ¬ (10 ≤ K e.2.1 ∧ K e.2.1 ≤ 13) then (1, e.2.1, z_l0) else if 400 ≤ e.2.1 then (2, e.2.1, z_l0) else
  if (z_ex K V (401 - (e.2.1 + 1)).toNat (e.2.1 + 1) 1 0 [] []).1 ≠ 0 then ((z_ex K V (401 - (e.2.1 + 1)).toNat (e.2.1 + 1) 1 0 [] []).1, (z_ex K V (401 - (e.2.1 + 1)).toNat (e.2.1 + 1) 1 0 [] []).2.1, z_l0) else
  (0, (z_ex K V (401 - (e.2.1 + 1)).toNat (e.2.1 + 1) 1 0 [] []).2.1, (aft, t, K e.2.1, e.2.2, (z_ex K V (401 - (e.2.1 + 1)).toNat (e.2.1 + 1) 1 0 [] []).2.2))
def z_li (K V : Int → Int) (h aft : Int) : Int × Int × z_L :=
  if (z_no K (401 - h).toNat h 0).1 ≠ 0 then ((z_no K (401 - h).toNat h 0).1, (z_no K (401 - h).toNat h 0).2.1, z_l0) else
  z_lj K V (z_no K (401 - h).toNat h 0).2.2 aft (z_ex K V (401 - (z_no K (401 - h).toNat h 0).2.1).toNat (z_no K (401 - h).toNat h 0).2.1 1 0 [] [])
def z_co (K V : Int → Int) : Nat → Int → Int → Int × Int × List z_L
  | 0, h, _ => (1, h, [])
  | n + 1, h, aft =>
    if (z_li K V h aft).1 ≠ 0 then ((z_li K V h aft).1, (z_li K V h aft).2.1, []) else
    if K (z_li K V h aft).2.1 = 35 ∨ K (z_li K V h aft).2.1 = 34 then
      if 400 ≤ (z_li K V h aft).2.1 then (2, (z_li K V h aft).2.1, []) else
      ((z_co K V n ((z_li K V h aft).2.1 + 1) (if K (z_li K V h aft).2.1 = 35 then 1 else 0)).1, (z_co K V n ((z_li K V h aft).2.1 + 1) (if K (z_li K V h aft).2.1 = 35 then 1 else 0)).2.1, (z_li K V h aft).2.2 :: (z_co K V n ((z_li K V h aft).2.1 + 1) (if K (z_li K V h aft).2.1 = 35 then 1 else 0)).2.2)
    else (0, (z_li K V h aft).2.1, [(z_li K V h aft).2.2])
/-- the class's words of a literal, of a rule -/
def z_lw (l : z_L) : List Int := l.2.2.2.1 ++ (l.2.2.2.2 ++ ((20000 + l.2.2.1) :: ((if l.2.1 = 1 then [20036] else []) ++ (if l.1 = 1 then [20035] else []))))
def z_ha : List z_L → Int
  | [] => 0
  | l :: _ => l.1
def z_rw : List z_L → Int → List Int
  | [], _ => []
  | l :: r, o => z_lw l ++ (if z_ha r = 1 then z_rw r o else (if o = 1 then [20034] else []) ++ z_rw r 1)
def z_lok (l : z_L) : Prop := (l.1 = 0 ∨ l.1 = 1) ∧ (l.2.1 = 0 ∨ l.2.1 = 1) ∧ (10 ≤ l.2.2.1 ∧ l.2.2.1 ≤ 13) ∧ z_dp l.2.2.2.1 0 1 ∧ z_dp l.2.2.2.2 0 1
def z_lc (l : z_L) : Int := l.2.2.2.1.length + l.2.2.2.2.length
section ZC
variable {K V P : Int → Int} {N : Int}
theorem zN_x (hN : zN K V P N) {h : Int} (hh : 0 ≤ h ∧ h ≤ N) (hk : 2 ≤ K h) (hc : ¬ 400 ≤ h) : h + 1 ≤ N := by
  rcases hN.2.2.1 with z | z
  · by_cases e : h = N
    · subst e
      omega
    · omega
  · omega
theorem z_no_ok (hN : zN K V P N) : ∀ (n : Nat) (h t : Int), 0 ≤ h → h ≤ N → (t = 0 ∨ t = 1) → ((z_no K n h t).1 = 0 → ((z_no K n h t).2.2 = 0 ∨ (z_no K n h t).2.2 = 1) ∧ h + (z_no K n h t).2.2 ≤ (z_no K n h t).2.1 + t) ∧ h ≤ (z_no K n h t).2.1 ∧ (z_no K n h t).2.1 ≤ N ∧ 0 ≤ (z_no K n h t).1
  | 0, h, t, a0, a1, a2 => by
    unfold z_no
    exact ⟨fun x => absurd x (by simp), Int.le_refl _, a1, by simp⟩
  | n + 1, h, t, a0, a1, a2 => by
    unfold z_no
    by_cases c : K h = 36
    · rw [if_pos c]
      by_cases c2 : 400 ≤ h
      · rw [if_pos c2]
        exact ⟨fun x => absurd x (by simp), Int.le_refl _, a1, by simp⟩
      · rw [if_neg c2]
        obtain ⟨i1, i2, i3, i4⟩ := z_no_ok hN n (h + 1) (1 - t) (by omega) (zN_x hN ⟨a0, a1⟩ (by omega) c2) (by omega)
        refine ⟨fun x => ?_, by omega, i3, i4⟩
        obtain ⟨j1, j2⟩ := i1 x
        exact ⟨j1, by omega⟩
    · rw [if_neg c]
      exact ⟨fun _ => ⟨a2, by show h + t ≤ h + t; omega⟩, Int.le_refl _, a1, by simp⟩
theorem z_ex_k (hN : zN K V P N) {h : Int} (hh : 0 ≤ h ∧ h ≤ N) : ((z_ex K V (401 - h).toNat h 1 0 [] []).1 = 0 → z_dp (z_ex K V (401 - h).toNat h 1 0 [] []).2.2 0 1 ∧ ((z_ex K V (401 - h).toNat h 1 0 [] []).2.2.length : Int) + h ≤ (z_ex K V (401 - h).toNat h 1 0 [] []).2.1 ∧ h < (z_ex K V (401 - h).toNat h 1 0 [] []).2.1) ∧ (z_ex K V (401 - h).toNat h 1 0 [] []).2.1 ≤ N ∧ 0 ≤ (z_ex K V (401 - h).toNat h 1 0 [] []).2.1 ∧ 0 ≤ (z_ex K V (401 - h).toNat h 1 0 [] []).1 := by
  obtain ⟨a, e⟩ := z_ex_ok hN (401 - h).toNat h 1 0 [] [] hh.1 hh.2 (Or.inr rfl) trivial rfl (by decide) (fun _ => rfl) (fun x => absurd x (by simp))
  refine ⟨fun x => ?_, e⟩
  obtain ⟨a1, a2, a3, a4⟩ := a x
  refine ⟨a1, ?_, a3 rfl⟩
  have e1 : ((([] : List Int).length : Nat) : Int) = 0 := rfl
  have e2 : ((z_nb ([] : List Int) : Nat) : Int) = 0 := rfl
  omega
theorem z_li_ok (hN : zN K V P N) {h aft : Int} (hh : 0 ≤ h ∧ h ≤ N) (ha : aft = 0 ∨ aft = 1) : ((z_li K V h aft).1 = 0 → z_lok (z_li K V h aft).2.2 ∧ (z_li K V h aft).2.2.1 = aft ∧ h + (z_li K V h aft).2.2.2.1 + 1 + z_lc (z_li K V h aft).2.2 ≤ (z_li K V h aft).2.1 ∧ h + 3 ≤ (z_li K V h aft).2.1) ∧ (z_li K V h aft).2.1 ≤ N ∧ 0 ≤ (z_li K V h aft).2.1 ∧ 0 ≤ (z_li K V h aft).1 := by
  obtain ⟨n1, n2, n3, n4⟩ := z_no_ok hN (401 - h).toNat h 0 hh.1 hh.2 (Or.inl rfl)
  unfold z_li
  generalize z_no K (401 - h).toNat h 0 = a at n1 n2 n3 n4
  by_cases c1 : a.1 = 0
  · rw [if_neg (fun x => x c1)]
    obtain ⟨n5, n6⟩ := n1 c1
    have hx := z_ex_k (V := V) hN (h := a.2.1) (by omega)
    generalize z_ex K V (401 - a.2.1).toNat a.2.1 1 0 [] [] = e at hx
    obtain ⟨x1, x2, x3, x4⟩ := hx
    unfold z_lj
    by_cases c2 : e.1 = 0
    · rw [if_neg (fun x => x c2)]
      obtain ⟨y1, y2, y3⟩ := x1 c2
      by_cases c3 : 10 ≤ K e.2.1 ∧ K e.2.1 ≤ 13
      · rw [if_neg (fun x => x c3)]
        by_cases c4 : 400 ≤ e.2.1
        · rw [if_pos c4]
          exact ⟨fun x => absurd x (by simp), x2, x3, by simp⟩
        · rw [if_neg c4]
          have nx := zN_x hN ⟨x3, x2⟩ (by omega) c4
          have hx := z_ex_k (V := V) hN (h := e.2.1 + 1) (by omega)
          generalize z_ex K V (401 - (e.2.1 + 1)).toNat (e.2.1 + 1) 1 0 [] [] = f at hx
          obtain ⟨w1, w2, w3, w4⟩ := hx
          by_cases c5 : f.1 = 0
          · rw [if_neg (fun x => x c5)]
            obtain ⟨v1, v2, v3⟩ := w1 c5
            refine ⟨fun _ => ⟨⟨ha, n5, c3, y1, v1⟩, rfl, ?_, ?_⟩, w2, w3, by simp⟩
            · unfold z_lc
              try dsimp only
              omega
            · try dsimp only
              omega
          · rw [if_pos c5]
            exact ⟨fun x => absurd x c5, w2, w3, w4⟩
      · rw [if_pos c3]
        exact ⟨fun x => absurd x (by simp), x2, x3, by simp⟩
    · rw [if_pos c2]
      exact ⟨fun x => absurd x c2, x2, x3, x4⟩
  · rw [if_pos c1]
    exact ⟨fun x => absurd x c1, n3, by show 0 ≤ a.2.1; omega, n4⟩
/-- how many words of formulas -/
def z_cl : List z_L → Int
  | [] => 0
  | l :: r => z_lc l + z_cl r
theorem z_cl_b : ∀ L : List z_L, 0 ≤ z_cl L
  | [] => by decide
  | l :: r => by
    have := z_cl_b r
    unfold z_cl z_lc
    omega
theorem z_lw_len {l : z_L} (h : z_lok l) : ((z_lw l).length : Int) = z_lc l + 1 + l.2.1 + l.1 := by
  unfold z_lw z_lc
  simp only [List.length_append, List.length_cons]
  rcases h.1 with a | a <;> rcases h.2.1 with e | e <;> rw [a, e] <;> simp <;> omega
theorem z_co_ok (hN : zN K V P N) : ∀ (n : Nat) (h aft : Int), 0 ≤ h → h ≤ N → (aft = 0 ∨ aft = 1) → ((z_co K V n h aft).1 = 0 → (∀ l ∈ (z_co K V n h aft).2.2, z_lok l) ∧ z_ha (z_co K V n h aft).2.2 = aft ∧ (z_co K V n h aft).2.2 ≠ [] ∧ h + 3 * (z_co K V n h aft).2.2.length ≤ (z_co K V n h aft).2.1 ∧ h + z_cl (z_co K V n h aft).2.2 ≤ (z_co K V n h aft).2.1) ∧ (z_co K V n h aft).2.1 ≤ N ∧ 0 ≤ (z_co K V n h aft).2.1 ∧ 0 ≤ (z_co K V n h aft).1
  | 0, h, aft, a0, a1, a2 => by
    unfold z_co
    exact ⟨fun x => absurd x (by simp), a1, a0, by simp⟩
  | n + 1, h, aft, a0, a1, a2 => by
    obtain ⟨l1, l2, l3, l4⟩ := z_li_ok (V := V) hN ⟨a0, a1⟩ a2
    unfold z_co
    generalize z_li K V h aft = l at l1 l2 l3 l4
    by_cases c1 : l.1 = 0
    · rw [if_neg (fun x => x c1)]
      obtain ⟨m1, m2, m3, m4⟩ := l1 c1
      have m1' := m1
      obtain ⟨-, q2, -⟩ := m1'
      have lc0 : 0 ≤ z_lc l.2.2 := by unfold z_lc; omega
      by_cases c2 : K l.2.1 = 35 ∨ K l.2.1 = 34
      · rw [if_pos c2]
        by_cases c3 : 400 ≤ l.2.1
        · rw [if_pos c3]
          exact ⟨fun x => absurd x (by simp), l2, l3, by simp⟩
        · rw [if_neg c3]
          have ih := z_co_ok hN n (l.2.1 + 1) (if K l.2.1 = 35 then 1 else 0) (by omega) (zN_x hN ⟨l3, l2⟩ (by omega) c3) (by split <;> omega)
          generalize z_co K V n (l.2.1 + 1) (if K l.2.1 = 35 then 1 else 0) = r at ih
          obtain ⟨i1, i2, i3, i4⟩ := ih
          refine ⟨fun x => ?_, i2, i3, i4⟩
          obtain ⟨j1, j2, j3, j4, j5⟩ := i1 x
          refine ⟨fun y hy => ?_, m2, fun y => (by cases y), ?_, ?_⟩
          · rcases List.mem_cons.mp hy with e | e
            · rw [e]; exact m1
            · exact j1 y e
          · try dsimp only
            rw [List.length_cons]
            omega
          · show h + (z_lc l.2.2 + z_cl r.2.2) ≤ r.2.1
            omega
      · rw [if_neg c2]
        refine ⟨fun _ => ⟨fun y hy => ?_, m2, fun y => (by cases y), ?_, ?_⟩, l2, l3, by simp⟩
        · rw [List.mem_singleton.mp hy]; exact m1
        · try dsimp only
          rw [List.length_singleton]
          omega
        · show h + (z_lc l.2.2 + 0) ≤ l.2.1
          omega
    · rw [if_pos c1]
      exact ⟨fun x => absurd x c1, l2, l3, l4⟩
end ZC
end
