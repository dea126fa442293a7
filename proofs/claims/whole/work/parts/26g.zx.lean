section
/-! reading, the picture: expressions -/
def z_rk (o : Int) : Int := if o = 8 ∨ o = 9 then 2 else if o = 14 then 0 else 1
def z_rd (least : Int) : List Int → List Int → List Int × List Int
  | [], C => ([], C)
  | o :: W, C => if least ≤ z_rk o then z_rd least W (C ++ [20000 + o]) else (o :: W, C)
/-- no fault (0) or its number, where, the words -/
abbrev z_E : Type := Int × Int × List Int
def z_ex (K V : Int → Int) : Nat → Int → Int → Int → List Int → List Int → z_E
  | 0, h, _, _, _, _ => (1, h, [])
  | n + 1, h, need, op, W, C =>
    if need = 1 then
      if K h = 14 then
        if op = 6 then (2, h, []) else if 400 ≤ h then (2, h, []) else z_ex K V n (h + 1) 1 (op + 1) (14 :: W) C
      else if K h = 3 then
        if 400 ≤ h then (2, h, []) else z_ex K V n (h + 1) 0 op W (C ++ [V h])
      else if 37 ≤ K h then
        if 400 ≤ h then (2, h, []) else z_ex K V n (h + 1) 0 op W (C ++ [10000 + K h - 37])
      else (1, h, [])
    else if 6 ≤ K h ∧ K h ≤ 9 then
      if 400 ≤ h then (2, h, []) else z_ex K V n (h + 1) 1 op (K h :: (z_rd (z_rk (K h)) W C).1) (z_rd (z_rk (K h)) W C).2
    else if op = 0 then (0, h, (z_rd 1 W C).2)
    else if K h = 15 then
      if 400 ≤ h then (2, h, []) else z_ex K V n (h + 1) 0 (op - 1) (z_rd 1 W C).1.tail (z_rd 1 W C).2
    else (1, h, [])
/-- what is written at k -/
def z_at (g : Int → Int) : Int → List Int → Prop
  | _, [] => True
  | k, x :: r => g k = x ∧ z_at g (k + 1) r
theorem z_len (x : Int) (r : List Int) : (((x :: r).length : Nat) : Int) = r.length + 1 := by simp
theorem z_lena (A B : List Int) : (((A ++ B).length : Nat) : Int) = A.length + B.length := by simp
theorem z_at_c {g g' : Int → Int} : ∀ (C : List Int) (k : Int), (∀ j, k ≤ j → j < k + C.length → g' j = g j) → z_at g k C → z_at g' k C
  | [], _, _, _ => trivial
  | x :: r, k, h, ⟨h1, h2⟩ => by
    have hl := z_len x r
    exact ⟨(h k (Int.le_refl _) (by omega)).trans h1, z_at_c r (k + 1) (fun j a c => h j (by omega) (by omega)) h2⟩
theorem z_at_a {g : Int → Int} : ∀ (A B : List Int) (k : Int), z_at g k A → z_at g (k + A.length) B → z_at g k (A ++ B)
  | [], B, k, _, h => by
    rw [show k + ((([] : List Int).length : Nat) : Int) = k by simp] at h
    exact h
  | x :: r, B, k, ⟨h1, h2⟩, h => by
    have hl := z_len x r
    refine ⟨h1, z_at_a r B (k + 1) h2 ?_⟩
    rw [show k + 1 + (r.length : Int) = k + ((x :: r).length : Int) by omega]
    exact h
theorem z_at_l {g : Int → Int} : ∀ (A B : List Int) (k : Int), z_at g k (A ++ B) → z_at g k A ∧ z_at g (k + A.length) B
  | [], B, k, h => by
    refine ⟨trivial, ?_⟩
    rw [show k + ((([] : List Int).length : Nat) : Int) = k by simp]
    exact h
  | x :: r, B, k, ⟨h1, h2⟩ => by
    have hl := z_len x r
    obtain ⟨a, c⟩ := z_at_l r B (k + 1) h2
    refine ⟨⟨h1, a⟩, ?_⟩
    rw [show k + ((x :: r).length : Int) = k + 1 + (r.length : Int) by omega]
    exact c
/-- from a stack of d to one of e -/
def z_dp : List Int → Nat → Nat → Prop
  | [], d, e => d = e
  | x :: r, d, e => (0 ≤ x ∧ x < 10000 ∧ d < 20 ∧ z_dp r (d + 1) e) ∨ (10000 ≤ x ∧ x < 10010 ∧ d < 20 ∧ z_dp r (d + 1) e) ∨ (20006 ≤ x ∧ x ≤ 20009 ∧ 2 ≤ d ∧ z_dp r (d - 1) e)
theorem z_dp_a : ∀ (A B : List Int) (d e f : Nat), z_dp A d e → z_dp B e f → z_dp (A ++ B) d f
  | [], B, d, e, f, h, g => by
    have h : d = e := h
    subst h
    exact g
  | x :: r, B, d, e, f, h, g => by
    rcases h with ⟨a, c, i, j⟩ | ⟨a, c, i, j⟩ | ⟨a, c, i, j⟩
    · exact Or.inl ⟨a, c, i, z_dp_a r B _ _ _ j g⟩
    · exact Or.inr (Or.inl ⟨a, c, i, z_dp_a r B _ _ _ j g⟩)
    · exact Or.inr (Or.inr ⟨a, c, i, z_dp_a r B _ _ _ j g⟩)
theorem z_fk {c : Int → Int} : ∀ (C : List Int) (k : Int) (d : Nat), z_dp C d 1 → z_at c k C → f_ok c C.length k d
  | [], _, _, h, _ => h
  | x :: r, k, d, h, ⟨h1, h2⟩ => by
    show (0 ≤ c k ∧ c k < 10000 ∧ d < 20 ∧ f_ok c r.length (k + 1) (d + 1)) ∨ (10000 ≤ c k ∧ c k < 10010 ∧ d < 20 ∧ f_ok c r.length (k + 1) (d + 1)) ∨ (20006 ≤ c k ∧ c k ≤ 20009 ∧ 2 ≤ d ∧ f_ok c r.length (k + 1) (d - 1))
    rw [h1]
    rcases h with ⟨a, e, i, j⟩ | ⟨a, e, i, j⟩ | ⟨a, e, i, j⟩
    · exact Or.inl ⟨a, e, i, z_fk r _ _ j h2⟩
    · exact Or.inr (Or.inl ⟨a, e, i, z_fk r _ _ j h2⟩)
    · exact Or.inr (Or.inr ⟨a, e, i, z_fk r _ _ j h2⟩)
/-- signs that wait: how many, how many brackets -/
def z_nb : List Int → Nat
  | [] => 0
  | o :: W => if o = 14 then z_nb W else z_nb W + 1
def z_br : List Int → Nat
  | [] => 0
  | o :: W => if o = 14 then z_br W + 1 else z_br W
def z_tr : List Int → Int
  | [] => 0
  | o :: _ => z_rk o
def z_wf : List Int → Prop
  | [] => True
  | o :: W => z_wf W ∧ (o = 14 ∨ ((o = 6 ∨ o = 7 ∨ o = 8 ∨ o = 9) ∧ z_tr W < z_rk o))
theorem z_rk_b (o : Int) : 0 ≤ z_rk o ∧ z_rk o ≤ 2 ∧ (o ≠ 14 → 1 ≤ z_rk o) ∧ (o = 14 → z_rk o = 0) := by
  unfold z_rk
  repeat' split
  all_goals omega
theorem z_tr_b (W : List Int) : 0 ≤ z_tr W ∧ z_tr W ≤ 2 := by
  cases W with
  | nil => exact ⟨by decide, by decide⟩
  | cons o W => exact ⟨(z_rk_b o).1, (z_rk_b o).2.1⟩
theorem z_nb_b : ∀ (W : List Int), z_wf W → (z_nb W : Int) ≤ 2 * z_br W + z_tr W ∧ W.length = z_nb W + z_br W
  | [], _ => by
    unfold z_nb z_br z_tr
    simp
  | o :: W, h => by
    have ih := z_nb_b W h.1
    have hr := z_rk_b o
    have ht := z_tr_b W
    have hl := z_len o W
    have e : z_tr (o :: W) = z_rk o := rfl
    rw [e]
    unfold z_nb z_br
    rcases h.2 with x | ⟨x, y⟩
    · rw [if_pos x, if_pos x]
      have := hr.2.2.2 x
      omega
    · rw [if_neg (by omega), if_neg (by omega)]
      omega
theorem z_rd_b {least : Int} (hl : 1 ≤ least) : ∀ (W C : List Int), z_wf W → z_wf (z_rd least W C).1 ∧ z_br (z_rd least W C).1 = z_br W ∧ z_nb (z_rd least W C).1 + (z_rd least W C).2.length = z_nb W + C.length ∧ z_tr (z_rd least W C).1 < least ∧ (z_dp C 0 (z_nb W + 1) → z_dp (z_rd least W C).2 0 (z_nb (z_rd least W C).1 + 1))
  | [], C, h => by
    refine ⟨trivial, rfl, rfl, ?_, fun h => h⟩
    show (0 : Int) < least
    omega
  | o :: W, C, h => by
    have hr := z_rk_b o
    unfold z_rd
    by_cases c : least ≤ z_rk o
    · rw [if_pos c]
      have ho : o ≠ 14 := fun x => by have := hr.2.2.2 x; omega
      obtain ⟨i1, i2, i3, i4, i5⟩ := z_rd_b hl W (C ++ [20000 + o]) h.1
      have e1 : z_nb (o :: W) = z_nb W + 1 := if_neg ho
      have e2 : z_br (o :: W) = z_br W := if_neg ho
      have hlen : (C ++ [20000 + o]).length = C.length + 1 := by simp
      refine ⟨i1, by omega, by omega, i4, fun hd => i5 ?_⟩
      rw [e1] at hd
      refine z_dp_a C [20000 + o] 0 _ _ hd ?_
      rcases h.2 with x | ⟨x, y⟩
      · exact absurd x ho
      · exact Or.inr (Or.inr ⟨by omega, by omega, by omega, rfl⟩)
    · rw [if_neg c]
      refine ⟨h, rfl, rfl, ?_, fun h => h⟩
      show z_rk o < least
      omega
theorem z_tr_1 {W : List Int} (h : z_wf W) (ht : z_tr W < 1) : (z_br W = 0 → W = []) ∧ (z_br W ≠ 0 → ∃ W', W = 14 :: W' ∧ z_wf W' ∧ z_br W = z_br W' + 1 ∧ z_nb W = z_nb W') := by
  cases W with
  | nil => exact ⟨fun _ => rfl, fun x => absurd rfl x⟩
  | cons o W =>
    have hr := z_rk_b o
    have ht : z_rk o < 1 := ht
    have ho : o = 14 := Decidable.byContradiction (fun x => by have := hr.2.2.1 x; omega)
    subst ho
    refine ⟨fun x => ?_, fun _ => ⟨W, rfl, h.1, rfl, rfl⟩⟩
    have x : z_br W + 1 = 0 := x
    omega
theorem z_ex_ok {K V P : Int → Int} {N : Int} (hN : zN K V P N) : ∀ (n : Nat) (h need op : Int) (W C : List Int), 0 ≤ h → h ≤ N → (need = 0 ∨ need = 1) → z_wf W → (z_br W : Int) = op → op ≤ 6 → (need = 1 → z_dp C 0 (z_nb W)) → (need = 0 → z_dp C 0 (z_nb W + 1)) →
    ((z_ex K V n h need op W C).1 = 0 → z_dp (z_ex K V n h need op W C).2.2 0 1 ∧ ((z_ex K V n h need op W C).2.2.length : Int) + h ≤ C.length + z_nb W + (z_ex K V n h need op W C).2.1 ∧ (need = 1 → h < (z_ex K V n h need op W C).2.1) ∧ h ≤ (z_ex K V n h need op W C).2.1) ∧ (z_ex K V n h need op W C).2.1 ≤ N ∧ 0 ≤ (z_ex K V n h need op W C).2.1 ∧ 0 ≤ (z_ex K V n h need op W C).1 := by
  obtain ⟨n1, n2, n3, n4, n5⟩ := hN
  intro n
  induction n with
  | zero =>
    intro h need op W C a0 a1 a2 a3 a4 a5 a6 a7
    have e : z_ex K V 0 h need op W C = (1, h, []) := rfl
    rw [e]
    exact ⟨fun x => absurd x (by simp), a1, a0, by simp⟩
  | succ n ih =>
    intro h need op W C a0 a1 a2 a3 a4 a5 a6 a7
    have nb := z_nb_b W a3
    have tb := z_tr_b W
    have kb := n4 h a0 a1
    have bad : ∀ z : Int, (z = 1 ∨ z = 2) → (((z, h, ([] : List Int)) : z_E).1 = 0 → z_dp ((z, h, ([] : List Int)) : z_E).2.2 0 1 ∧ ((((z, h, ([] : List Int)) : z_E).2.2.length : Nat) : Int) + h ≤ C.length + z_nb W + ((z, h, ([] : List Int)) : z_E).2.1 ∧ (need = 1 → h < ((z, h, ([] : List Int)) : z_E).2.1) ∧ h ≤ ((z, h, ([] : List Int)) : z_E).2.1) ∧ ((z, h, ([] : List Int)) : z_E).2.1 ≤ N ∧ 0 ≤ ((z, h, ([] : List Int)) : z_E).2.1 ∧ 0 ≤ ((z, h, ([] : List Int)) : z_E).1 := by
      intro z hz
      refine ⟨fun x => ?_, a1, a0, ?_⟩
      · have x : z = 0 := x
        omega
      · show 0 ≤ z
        omega
    have nx : 2 ≤ K h → ¬ 400 ≤ h → h + 1 ≤ N := by
      intro x y
      rcases n3 with z | z
      · by_cases e : h = N
        · subst e
          omega
        · omega
      · omega
    unfold z_ex
    rcases a2 with rfl | rfl
    · rw [if_neg (by decide)]
      by_cases c1 : 6 ≤ K h ∧ K h ≤ 9
      · rw [if_pos c1]
        by_cases c2 : 400 ≤ h
        · rw [if_pos c2]
          exact bad 2 (Or.inr rfl)
        · rw [if_neg c2]
          have rk := z_rk_b (K h)
          obtain ⟨i1, i2, i3, i4, i5⟩ := z_rd_b (least := z_rk (K h)) (rk.2.2.1 (by omega)) W C a3
          have e1 : z_nb (K h :: (z_rd (z_rk (K h)) W C).1) = z_nb (z_rd (z_rk (K h)) W C).1 + 1 := if_neg (by omega)
          have e2 : z_br (K h :: (z_rd (z_rk (K h)) W C).1) = z_br (z_rd (z_rk (K h)) W C).1 := if_neg (by omega)
          have := ih (h + 1) 1 op (K h :: (z_rd (z_rk (K h)) W C).1) (z_rd (z_rk (K h)) W C).2 (by omega) (nx (by omega) c2) (Or.inr rfl) ⟨i1, Or.inr ⟨by omega, i4⟩⟩ (by omega) a5 (fun _ => by rw [e1]; exact i5 (a7 rfl)) (fun x => absurd x (by decide))
          refine ⟨fun x => ?_, this.2⟩
          obtain ⟨j1, j2, j3, j4⟩ := this.1 x
          exact ⟨j1, by omega, fun y => absurd y (by decide), by omega⟩
      · rw [if_neg c1]
        obtain ⟨i1, i2, i3, i4, i5⟩ := z_rd_b (least := 1) (by decide) W C a3
        obtain ⟨t1, t2⟩ := z_tr_1 i1 i4
        by_cases c2 : op = 0
        · rw [if_pos c2]
          have e := t1 (by omega)
          rw [e] at i3 i5
          have i5 := i5 (a7 rfl)
          have e0 : z_nb ([] : List Int) = 0 := rfl
          rw [e0] at i3 i5
          refine ⟨fun _ => ⟨i5, ?_, fun y => absurd y (by decide), Int.le_refl _⟩, a1, a0, by simp⟩
          show (((z_rd 1 W C).2.length : Nat) : Int) + h ≤ C.length + z_nb W + h
          omega
        · rw [if_neg c2]
          by_cases c3 : K h = 15
          · rw [if_pos c3]
            by_cases c4 : 400 ≤ h
            · rw [if_pos c4]
              exact bad 2 (Or.inr rfl)
            · rw [if_neg c4]
              obtain ⟨W', w1, w2, w3, w4⟩ := t2 (by omega)
              rw [w1, List.tail_cons]
              rw [w1] at i5 i3
              have w4' : z_nb (14 :: W') = z_nb W' := rfl
              rw [w4'] at i3 i5
              have := ih (h + 1) 0 (op - 1) W' (z_rd 1 W C).2 (by omega) (nx (by omega) c4) (Or.inl rfl) w2 (by omega) (by omega) (fun x => absurd x (by decide)) (fun _ => i5 (a7 rfl))
              refine ⟨fun x => ?_, this.2⟩
              obtain ⟨j1, j2, j3, j4⟩ := this.1 x
              exact ⟨j1, by omega, fun y => absurd y (by decide), by omega⟩
          · rw [if_neg c3]
            exact bad 1 (Or.inl rfl)
    · rw [if_pos rfl]
      have a6 := a6 rfl
      have push : ∀ v : Int, (0 ≤ v ∧ v < 10010) → z_dp (C ++ [v]) 0 (z_nb W + 1) := by
        intro v hv
        refine z_dp_a C [v] 0 _ _ a6 ?_
        by_cases c : v < 10000
        · exact Or.inl ⟨hv.1, c, by omega, rfl⟩
        · exact Or.inr (Or.inl ⟨by omega, hv.2, by omega, rfl⟩)
      by_cases c1 : K h = 14
      · rw [if_pos c1]
        by_cases c2 : op = 6
        · rw [if_pos c2]
          exact bad 2 (Or.inr rfl)
        · rw [if_neg c2]
          by_cases c3 : 400 ≤ h
          · rw [if_pos c3]
            exact bad 2 (Or.inr rfl)
          · rw [if_neg c3]
            have e1 : z_nb (14 :: W) = z_nb W := rfl
            have e2 : z_br (14 :: W) = z_br W + 1 := rfl
            have := ih (h + 1) 1 (op + 1) (14 :: W) C (by omega) (nx (by omega) c3) (Or.inr rfl) ⟨a3, Or.inl rfl⟩ (by omega) (by omega) (fun _ => by rw [e1]; exact a6) (fun x => absurd x (by decide))
            refine ⟨fun x => ?_, this.2⟩
            obtain ⟨j1, j2, j3, j4⟩ := this.1 x
            exact ⟨j1, by omega, fun y => by omega, by omega⟩
      · rw [if_neg c1]
        by_cases c2 : K h = 3
        · rw [if_pos c2]
          by_cases c3 : 400 ≤ h
          · rw [if_pos c3]
            exact bad 2 (Or.inr rfl)
          · rw [if_neg c3]
            have hlen := z_lena C [V h]
            have h1 : (([V h].length : Nat) : Int) = 1 := rfl
            have := ih (h + 1) 0 op W (C ++ [V h]) (by omega) (nx (by omega) c3) (Or.inl rfl) a3 a4 a5 (fun x => absurd x (by decide)) (fun _ => push _ (by omega))
            refine ⟨fun x => ?_, this.2⟩
            obtain ⟨j1, j2, j3, j4⟩ := this.1 x
            exact ⟨j1, by omega, fun y => by omega, by omega⟩
        · rw [if_neg c2]
          by_cases c4 : 37 ≤ K h
          · rw [if_pos c4]
            by_cases c3 : 400 ≤ h
            · rw [if_pos c3]
              exact bad 2 (Or.inr rfl)
            · rw [if_neg c3]
              have hlen := z_lena C [10000 + K h - 37]
              have h1 : (([10000 + K h - 37].length : Nat) : Int) = 1 := rfl
              have := ih (h + 1) 0 op W (C ++ [10000 + K h - 37]) (by omega) (nx (by omega) c3) (Or.inl rfl) a3 a4 a5 (fun x => absurd x (by decide)) (fun _ => push _ (by omega))
              refine ⟨fun x => ?_, this.2⟩
              obtain ⟨j1, j2, j3, j4⟩ := this.1 x
              exact ⟨j1, by omega, fun y => by omega, by omega⟩
          · rw [if_neg c4]
            exact bad 1 (Or.inl rfl)
end
