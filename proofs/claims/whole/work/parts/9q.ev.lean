section
/-! the constructors' run -/
def q_ex : Nat → x_F → x_H → Option (Option Value × x_H)
  | 0, _, _ => none
  | n + 1, f, h => match q_okf f with
    | false => none
    | true => match x_st q_xs 0 f h with
      | none => none
      | some (.inl (f', h')) => q_ex n f' h'
      | some (.inr (.inl r)) => some r
      | some (.inr (.inr ((z, As), f', h'))) => match x_en z As with
        | none => none
        | some f0 => match q_ex n f0 h' with
          | none => none
          | some (v, h2) => q_ex n (x_ps v f') h2
def q_to (m : Nat) : Nat → x_F → x_H → Option (x_F × x_H)
  | 0, f, h => some (f, h)
  | n + 1, f, h => match q_okf f with
    | false => none
    | true => match x_st q_xs 0 f h with
      | none => none
      | some (.inl (f', h')) => q_to m n f' h'
      | some (.inr (.inl _)) => none
      | some (.inr (.inr ((z, As), f', h'))) => match x_en z As with
        | none => none
        | some f0 => match q_ex m f0 h' with
          | none => none
          | some (v, h2) => q_to m n (x_ps v f') h2
theorem q_ex_x {xs : Nat → Int32} {xl : Nat} : ∀ (n : Nat) (f : x_F) (h : x_H) (r : Option Value × x_H), q_ex n f h = some r → x_ex xs xl n f h = some r
  | 0, f, h, r, e => by cases e
  | n + 1, f, h, r, e => by
    unfold q_ex at e
    unfold x_ex
    split at e
    · cases e
    · rename_i g
      split at e
      · cases e
      · rename_i f' h' hs
        rw [q_st_x g hs]
        exact q_ex_x n f' h' r e
      · rename_i r' hs
        rw [q_st_x g hs]
        exact e
      · rename_i z As f' h' hs
        rw [q_st_x g hs]
        split at e
        · cases e
        · rename_i f0 hf0
          split at e
          · cases e
          · rename_i v h2 he
            simp only [hf0, q_ex_x n f0 h' _ he]
            exact q_ex_x n _ h2 r e
theorem q_st_I {f f' : x_F} {h h' : x_H} (g : q_okf f = true) (hs : x_st q_xs 0 f h = some (.inl (f', h'))) (hi : q_I h) : q_I h' := by
  obtain ⟨y, pc, L, M, S⟩ := f
  unfold q_okf at g
  have g := (Bool.and_eq_true_iff.mp g).2
  unfold x_st at hs
  try dsimp only at hs g
  split at hs
  · rename_i e he
    rw [he] at g
    split at hs
    · exact q_inv g hs hi
    · cases hs
  · cases hs
theorem q_st_c {f f' : x_F} {h h' : x_H} {q : Nat × List Value} (hs : x_st q_xs 0 f h = some (.inr (.inr (q, f', h')))) : h' = h := ((x_mo_st (xs := q_xs) (xl := 0) (f := f) (h := h) _ hs).2.1 q f' h' rfl).2
theorem q_st_r {f : x_F} {h : x_H} {r : Option Value × x_H} (hs : x_st q_xs 0 f h = some (.inr (.inl r))) : r.2 = h := (x_mo_st (xs := q_xs) (xl := 0) (f := f) (h := h) _ hs).2.2 r rfl
theorem q_ex_I : ∀ (n : Nat) (f : x_F) (h : x_H) (r : Option Value × x_H), q_ex n f h = some r → q_I h → q_I r.2
  | 0, f, h, r, e, _ => by cases e
  | n + 1, f, h, r, e, hi => by
    unfold q_ex at e
    split at e
    · cases e
    · rename_i g
      split at e
      · cases e
      · rename_i f' h' hs
        exact q_ex_I n f' h' r e (q_st_I g hs hi)
      · rename_i r' hs
        cases e
        rw [q_st_r hs]
        exact hi
      · rename_i z As f' h' hs
        have eh := q_st_c hs
        subst eh
        split at e
        · cases e
        · split at e
          · cases e
          · rename_i v h2 he
            exact q_ex_I n _ h2 r e (q_ex_I n _ _ _ he hi)
theorem q_to_I {m : Nat} : ∀ (n : Nat) (f : x_F) (h : x_H) (r : x_F × x_H), q_to m n f h = some r → q_I h → q_I r.2
  | 0, f, h, r, e, hi => by
    cases e
    exact hi
  | n + 1, f, h, r, e, hi => by
    unfold q_to at e
    split at e
    · cases e
    · rename_i g
      split at e
      · cases e
      · rename_i f' h' hs
        exact q_to_I n f' h' r e (q_st_I g hs hi)
      · cases e
      · rename_i z As f' h' hs
        have eh := q_st_c hs
        subst eh
        split at e
        · cases e
        · split at e
          · cases e
          · rename_i v h2 he
            exact q_to_I n _ h2 r e (q_ex_I m _ _ _ he hi)
theorem q_to_x {xs : Nat → Int32} {xl m : Nat} : ∀ (n : Nat) (f : x_F) (h : x_H) (r : x_F × x_H), q_to m n f h = some r → ∀ (N : Nat) (w : Option Value × x_H), x_ex xs xl N r.1 r.2 = some w → ∃ N', x_ex xs xl N' f h = some w
  | 0, f, h, r, e, N, w, hw => by
    cases e
    exact ⟨N, hw⟩
  | n + 1, f, h, r, e, N, w, hw => by
    unfold q_to at e
    split at e
    · cases e
    · rename_i g
      split at e
      · cases e
      · rename_i f' h' hs
        obtain ⟨N', h1⟩ := q_to_x n f' h' r e N w hw
        refine ⟨N' + 1, ?_⟩
        unfold x_ex
        rw [q_st_x g hs]
        exact h1
      · cases e
      · rename_i z As f' h' hs
        split at e
        · cases e
        · rename_i f0 hf0
          split at e
          · cases e
          · rename_i v h2 he
            obtain ⟨N', h1⟩ := q_to_x n _ h2 r e N w hw
            refine ⟨N' + m + 1, ?_⟩
            unfold x_ex
            rw [q_st_x g hs]
            simp only [hf0, w_fuel (q_ex_x (xs := xs) (xl := xl) m f0 h' _ he) (Nat.le_add_left m N')]
            exact w_fuel h1 (Nat.le_add_right N' m)
def q_h0 : x_H := ([], fun _ _ => 0, fun _ _ => 0, fun _ _ => none)
def q_f0 : x_F := (0, 0, [some (.ref 100000), none, none, none], [], [])
def q_r0 : Option (x_F × x_H) := q_to 2000 6 q_f0 q_h0
def q_f1 : x_F := (163, 0, [some (.ref 104)], [], [])
def q_h6 : x_H := match q_r0 with
  | some (_, h) => h
  | none => q_h0
def q_r1 : Option (x_F × x_H) := q_to 2000 143 q_f1 q_h6
def q_hF : x_H := match q_r1 with
  | some (_, h) => h
  | none => q_h0
set_option maxRecDepth 100000 in
theorem q_c0 : (match q_r0 with
  | some ((0, 12, [some (.ref 100000), some (.ref 0), none, none], [], [.ref 104, .ref 104]), _) => true
  | _ => false) = true := by decide +kernel
theorem q_e0 : q_r0 = some ((0, 12, [some (.ref 100000), some (.ref 0), none, none], [], [.ref 104, .ref 104]), q_h6) := by
  have h := q_c0
  unfold q_h6
  split at h
  · rename_i h6 e
    rw [e]
  · cases h
set_option maxRecDepth 100000 in
theorem q_c1 : (match q_r1 with
  | some ((163, 297, [some (.ref 104)], [], [.int i, .ref 104]), _) => decide (i = 0)
  | _ => false) = true := by decide +kernel
theorem q_e1 : q_r1 = some ((163, 297, [some (.ref 104)], [], [.int 0, .ref 104]), q_hF) := by
  have h := q_c1
  unfold q_hF
  split at h
  · rename_i i h6 e
    rw [e, of_decide_eq_true h]
  · cases h
set_option maxRecDepth 100000 in
theorem q_eK : q_hF.1 = w_K := by decide +kernel
end
