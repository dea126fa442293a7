section
/-! the start: all that is needed of it -/
theorem q_I0 : q_I q_h0 := fun a k h => absurd rfl h
theorem q_to_I2 {m n : Nat} {f f' : x_F} {h h' : x_H} (e : q_to m n f h = some (f', h')) (hi : q_I h) : q_I h' := q_to_I n f h (f', h') e hi
theorem q_to_x2 {xs : Nat → Int32} {xl m n : Nat} {f f' : x_F} {h h' : x_H} (e : q_to m n f h = some (f', h')) {N : Nat} {w : Option Value × x_H} (hw : x_ex xs xl N f' h' = some w) : ∃ N', x_ex xs xl N' f h = some w := q_to_x n f h (f', h') e N w hw
theorem q_s0 : q_to 2000 6 q_f0 q_h0 = some ((0, 12, [some (.ref 100000), some (.ref 0), none, none], [], [.ref 104, .ref 104]), q_h6) := by
  have e := q_e0
  unfold q_r0 at e
  exact e
theorem q_s1 : q_to 2000 143 q_f1 q_h6 = some ((163, 297, [some (.ref 104)], [], [.int 0, .ref 104]), q_hF) := by
  have e := q_e1
  unfold q_r1 at e
  exact e
theorem q_IF : q_I q_hF := q_to_I2 q_s1 (q_to_I2 q_s0 q_I0)
theorem x_at_none {α : Type} {l : List α} {n : Nat} (h : l.length ≤ n) : x_at l n = none := by
  rw [x_at_eq]
  exact List.getElem?_eq_none h
theorem q_eA : q_hF.2.2.2 = w_A false := by
  have hr := q_cR
  simp only [Bool.and_eq_true, decide_eq_true_eq] at hr
  obtain ⟨⟨hr, hk⟩, ha⟩ := hr
  have hA := q_cA
  rw [List.all_eq_true] at hr hA
  have I := q_IF
  unfold q_I at I
  rw [q_eK] at I
  funext a k
  by_cases c : a < 139
  · have r1 := hr a (List.mem_range.mpr c)
    have a1 := hA a (List.mem_range.mpr c)
    cases hkd : x_at w_K a with
    | none => rw [hkd] at a1; cases a1
    | some kd =>
      rw [hkd] at a1 r1
      try dsimp only at a1 r1
      by_cases c2 : k < q_kb kd
      · rw [List.all_eq_true] at a1
        exact eq_of_beq (a1 k (List.mem_range.mpr c2))
      · have e1 : q_hF.2.2.2 a k = none := by
          cases e : q_hF.2.2.2 a k with
          | none => rfl
          | some v =>
            obtain ⟨kd', x1, x2⟩ := I a k (by rw [e]; intro z; cases z)
            rw [hkd] at x1
            cases x1
            exact absurd x2 c2
        rw [e1]
        unfold w_A
        cases hrow : x_at (w_At false) a with
        | none => rfl
        | some row =>
          rw [hrow] at r1
          have r1 := of_decide_eq_true r1
          try dsimp only
          rw [x_at_none (by omega)]
  · have e1 : q_hF.2.2.2 a k = none := by
      cases e : q_hF.2.2.2 a k with
      | none => rfl
      | some v =>
        obtain ⟨kd', x1, x2⟩ := I a k (by rw [e]; intro z; cases z)
        have := x_at_lt x1
        omega
    rw [e1]
    unfold w_A
    rw [x_at_none (by omega)]
def q_Ii : w_I := fun a k => (q_hF.2.1 a k.toNat).toInt
def q_Ji : w_I := fun a k => (q_hF.2.2.1 a k.toNat).toInt
theorem q_eF : q_hF = (w_K, w_h q_Ii, w_hj q_Ji, w_A false) := by
  have e1 : q_hF.2.1 = w_h q_Ii := by
    funext a k
    show _ = Int32.ofInt ((q_hF.2.1 a ((k : Int)).toNat).toInt)
    rw [Int.toNat_natCast, Int32.ofInt_toInt]
  have e2 : q_hF.2.2.1 = w_hj q_Ji := by
    funext a k
    show _ = Int64.ofInt ((q_hF.2.2.1 a ((k : Int)).toNat).toInt)
    rw [Int.toNat_natCast, Int64.ofInt_toInt]
  rw [← e1, ← e2, ← q_eA, ← q_eK]
theorem q_i (a k : Nat) (v : Int) (h : (a, k, v) ∈ q_L) : q_Ii a k = v := by
  have hc := q_cI
  simp only [Bool.and_eq_true, List.all_eq_true] at hc
  have := eq_of_beq (hc.1.1 _ h)
  try dsimp only at this
  show (q_hF.2.1 a ((k : Int)).toNat).toInt = v
  rw [Int.toNat_natCast]
  exact this
theorem q_i30 {k : Int} (h : 0 ≤ k ∧ k < 24) : q_Ii 30 k = -1 := by
  have hc := q_cI
  simp only [Bool.and_eq_true, List.all_eq_true] at hc
  have := eq_of_beq (hc.1.2 k.toNat (List.mem_range.mpr (by omega)))
  show (q_hF.2.1 30 k.toNat).toInt = -1
  exact this
theorem q_i115 {k : Int} (h : 0 ≤ k ∧ k < 800) : q_Ii 115 k = 0 := by
  have hc := q_cI
  simp only [Bool.and_eq_true, List.all_eq_true] at hc
  have := eq_of_beq (hc.2 k.toNat (List.mem_range.mpr (by omega)))
  show (q_hF.2.1 115 k.toNat).toInt = 0
  exact this
theorem q_RR {I1 : w_I} (f : w_fr (p91 0) q_Ii I1) (hc : ∀ j, 0 ≤ j → j < 700 → I1 110 (700 * 0 + j) = if j = 1 then 1 else if j = 2 then 3 else if 11 ≤ j ∧ j ≤ 18 then -1 else 0) : RR I1 := by
  have s : ∀ j v, (if j = 1 then 1 else if j = 2 then 3 else if 11 ≤ j ∧ j ≤ 18 then -1 else 0) = v → 0 ≤ j → j < 700 → I1 110 j = v := fun j v e x y => by
    have := hc j x y
    rw [show 700 * 0 + j = j by omega] at this
    rw [this]
    exact e
  have g : ∀ (a k : Nat) (v : Int), (a, k, v) ∈ q_L → p91 0 a k = false → I1 a k = v := fun a k v h e => (f a k e).trans (q_i a k v h)
  have fa : ∀ a, a ≠ 110 → a ≠ 111 → a ≠ 114 → I1 a = q_Ii a := fun a x y z => w_frA f (fun k => by unfold p91; simp [x, y, z])
  have ze : zEd (RF I1) (I1 110) z_S0 := by
    refine ⟨⟨s 0 0 rfl (by decide) (by decide), trivial, trivial⟩, ⟨s 1 1 rfl (by decide) (by decide), s 2 3 rfl (by decide) (by decide), s 3 0 rfl (by decide) (by decide), s 4 0 rfl (by decide) (by decide)⟩, ⟨s 7 0 rfl (by decide) (by decide), s 8 0 rfl (by decide) (by decide), s 9 0 rfl (by decide) (by decide), s 10 0 rfl (by decide) (by decide)⟩, fun w x y => ⟨fun _ => s (11 + 2 * w) (-1) (by rw [if_neg (by omega), if_neg (by omega), if_pos (by omega)]) (by omega) (by omega), fun C e => (by cases e)⟩, fun r L x e => (by cases e)⟩
  have zd : zD I1 z_S0 := by
    refine ⟨⟨g 2 5 0 (by decide) rfl, trivial, trivial⟩, ⟨g 2 6 1 (by decide) rfl, g 2 7 3 (by decide) rfl, g 2 10 0 (by decide) rfl, g 2 8 0 (by decide) rfl⟩, fun w x y => ?_, fun r L e => (by cases e)⟩
    have : w = 0 ∨ w = 1 ∨ w = 2 ∨ w = 3 := by omega
    rcases this with e | e | e | e <;> subst e
    · have h1 : I1 6 0 = 0 := g 6 0 0 (by decide) rfl
      have h2 : I1 7 0 = 1 := g 7 0 1 (by decide) rfl
      rw [h1, h2]
      exact ⟨by decide, rfl, by decide, g 5 0 1 (by decide) rfl, trivial⟩
    · have h1 : I1 6 1 = 1 := g 6 1 1 (by decide) rfl
      have h2 : I1 7 1 = 2 := g 7 1 2 (by decide) rfl
      rw [h1, h2]
      exact ⟨by decide, rfl, by decide, g 5 1 10009 (by decide) rfl, trivial⟩
    · have h1 : I1 6 2 = 2 := g 6 2 2 (by decide) rfl
      have h2 : I1 7 2 = 3 := g 7 2 3 (by decide) rfl
      rw [h1, h2]
      exact ⟨by decide, rfl, by decide, g 5 2 1 (by decide) rfl, trivial⟩
    · have h1 : I1 6 3 = 3 := g 6 3 3 (by decide) rfl
      have h2 : I1 7 3 = 4 := g 7 3 4 (by decide) rfl
      rw [h1, h2]
      exact ⟨by decide, rfl, by decide, g 5 3 0 (by decide) rfl, trivial⟩
  have v0 : zV2 z_S0 := ⟨Or.inl rfl, fun x hx => (by cases hx), fun x hx => (by cases hx), ⟨by decide, fun _ => by decide⟩, ⟨by decide, fun _ => by decide⟩, Or.inl rfl, fun w C e => (by cases e), fun L hL => (by cases hL)⟩
  have n0 : I1 49 0 = 0 := g 49 0 0 (by decide) rfl
  have n1 : I1 49 1 = 0 := g 49 1 0 (by decide) rfl
  have m0 : I1 121 2 = 0 := g 121 2 0 (by decide) rfl
  have m1 : I1 121 3 = 0 := g 121 3 0 (by decide) rfl
  have t0 : I1 0 1 = 0 := g 0 1 0 (by decide) rfl
  have t1 : I1 104 0 = 0 := g 104 0 0 (by decide) rfl
  have l0 : I1 0 2 = -1 := g 0 2 (-1) (by decide) rfl
  have l1 : I1 104 9 = -1 := g 104 9 (-1) (by decide) rfl
  refine ⟨⟨jn_wf ze v0 rfl ⟨rfl, by decide, by decide⟩, jn_rf ze ⟨g 20 13 0 (by decide) rfl, g 20 14 0 (by decide) rfl, g 20 15 0 (by decide) rfl, g 20 16 0 (by decide) rfl⟩ (fun j x y => by rw [fa 30 (by decide) (by decide) (by decide)]; exact q_i30 ⟨x, y⟩), jn_rt ze zd rfl, jn_cd ze zd v0 (by decide)⟩, fun k x y => ?_, ⟨⟨Or.inl n0, ?_, fun z => by omega⟩, ⟨Or.inl n1, ?_, fun z => by omega⟩⟩, ⟨?_, ?_⟩, by rw [l0, l1]⟩
  · rw [fa 115 (by decide) (by decide) (by decide), q_i115 ⟨x, y⟩]
    exact Or.inl rfl
  · rw [n0]; exact m0
  · rw [n1]; exact m1
  · rw [t1]; exact ⟨t0, by decide, fun k x y => by omega⟩
  · rw [t1]; exact ⟨t1, by decide, fun k x y => rfl⟩
/-- the whole run of the law's body -/
theorem main_run {xs : Nat → Int32} {xl : Nat} (hx : xl ≤ 3072) : ∃ n I' J' b', x_ex xs xl n q_f0 q_h0 = some (some (w_i 1), (w_K, w_h I', w_hj J', w_A b')) := by
  -- behind the two constructors
  have t18 : ∀ (I J : w_I) (b : Bool), RR I → w_T xs xl 0 15 [some (.ref 100000), some (.ref 0), none, none] [] [.ref 104] I J b (fun v _ _ _ => v = some (w_i 1)) := by
    intro I J b R
    refine w_go (pc' := 16) (L' := [some (.ref 100000), some (.ref 0), some (.ref 104), none]) (M' := []) (S' := []) rfl rfl rfl ?_
    refine w_go (pc' := 17) (L' := [some (.ref 100000), some (.ref 0), some (.ref 104), none]) (M' := []) (S' := [w_i 0]) rfl rfl rfl ?_
    refine w_go (pc' := 18) (L' := [some (.ref 100000), some (.ref 0), some (.ref 104), some (w_i 0)]) (M' := []) (S' := []) rfl rfl rfl ?_
    exact law_loop (by omega) xl 0 I J b (by omega) (by decide) (by omega) R
  -- the reference's constructor
  have t163 : w_T xs xl 163 297 [some (.ref 104)] [] [w_i 0, .ref 104] q_Ii q_Ji false (fun v I _ _ => v = none ∧ RR I) := by
    refine w_cl (z := 191) (As := [.ref 104, w_i 0]) (r := []) (pc' := 300) rfl rfl rfl ?_
    refine s191 (by decide) (fun I1 f1 c1 c2 c3 => ?_)
    exact w_rt rfl rfl rfl ⟨rfl, q_RR f1 c1⟩
  obtain ⟨n1, v1, I1, J1, b1, h1, e1, R1⟩ := t163
  subst e1
  have h1 : x_ex xs xl n1 (163, 297, [some (.ref 104)], [], [.int 0, .ref 104]) q_hF = some (none, (w_K, w_h I1, w_hj J1, w_A b1)) := by
    rw [q_eF]
    exact h1
  obtain ⟨n2, h2⟩ := q_to_x2 (xs := xs) (xl := xl) q_s1 h1
  obtain ⟨n3, v3, I3, J3, b3, h3, e3⟩ := t18 I1 J1 b1 R1
  subst e3
  have h4 : x_ex xs xl (n2 + n3 + 1) (0, 12, [some (.ref 100000), some (.ref 0), none, none], [], [.ref 104, .ref 104]) q_h6 = some (some (w_i 1), (w_K, w_h I3, w_hj J3, w_A b3)) := by
    have hs : x_st xs xl (0, 12, [some (.ref 100000), some (.ref 0), none, none], [], [.ref 104, .ref 104]) q_h6 = some (.inr (.inr ((163, [.ref 104]), (0, 15, [some (.ref 100000), some (.ref 0), none, none], [], [.ref 104]), q_h6))) := w_st rfl rfl rfl
    have he : x_en 163 [.ref 104] = some q_f1 := rfl
    unfold x_ex
    rw [hs]
    simp only [he, w_fuel h2 (Nat.le_add_right n2 n3)]
    exact w_fuel h3 (Nat.le_add_left n3 n2)
  obtain ⟨n5, h5⟩ := q_to_x2 (xs := xs) (xl := xl) q_s0 h4
  exact ⟨n5, I3, J3, b3, h5⟩
end
