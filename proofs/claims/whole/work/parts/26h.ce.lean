section
/-! reading, the class: passing, failing, expressions -/
variable {xs : Nat → Int32} {xl : Nat} {I J : w_I} {b : Bool} {Q : Option Value → w_I → w_I → Bool → Prop}
variable {K V P : Int → Int} {N : Int}
theorem zT_f {I' : w_I} (hT : zT I K V P N) (h15 : I' 15 = I 15) (h16 : I' 16 = I 16) (h17 : I' 17 = I 17) : zT I' K V P N := by
  intro i x y
  rw [h15, h16, h17]
  exact hT i x y
def pzZ (a : Nat) (_ : Int) : Bool := Nat.ble 8 a && Nat.ble a 19
/-- a fault -/
def zB (I I' : w_I) (st p : Int) : Prop := w_fr pzZ I I' ∧ I' 8 10 = st ∧ I' 8 11 = p
theorem zB_f {I1 I' : w_I} {st p : Int} (h : zB I1 I' st p) (f : w_fr pzZ I I1) : zB I I' st p := ⟨w_frt f h.1, h.2⟩
theorem c76 (hT : zT I K V P N) (hN : N ≤ 400) {h z : Int} (h9 : I 8 9 = h) (hh : 0 ≤ h ∧ h ≤ N) (k : ∀ I', zB I I' z (P h) → Q (some (w_i 0)) I' J b) : w_C xs xl 76 [.ref 8, w_i z] I J b Q := by
  have e17 := (hT h hh.1 hh.2).2.2
  have kk := k (w_U (w_U I 8 10 z) 8 11 (P h)) ⟨w_frU (w_frU w_frr rfl) rfl, by simp [w_Ug], by simp [w_Ug]⟩
  refine e76 ?_
  refine b76_0 ?_
  try simp only [w_Ug, reduceIte, Nat.reduceEqDiff, Int.reduceEq, eq_self, h9, e17]
  repeat' (first | apply And.intro | intro)
  all_goals (try first | omega | contradiction | exact Or.inl trivial | exact Or.inr trivial)
theorem c77 (hT : zT I K V P N) (hN : N ≤ 400) {h : Int} (h9 : I 8 9 = h) (hh : 0 ≤ h ∧ h ≤ N) (k1 : h < 400 → Q (some (w_i 1)) (w_U I 8 9 (h + 1)) J b) (k0 : 400 ≤ h → ∀ I', zB I I' 2 (P h) → Q (some (w_i 0)) I' J b) : w_C xs xl 77 [.ref 8] I J b Q := by
  refine e77 ?_
  by_cases c : h < 400
  · have kk := k1 c
    refine b77_0 ?_
    try simp only [w_Ug, reduceIte, Nat.reduceEqDiff, Int.reduceEq, eq_self, h9]
    repeat' (first | apply And.intro | intro)
    all_goals (try first | omega | contradiction | exact Or.inl trivial | exact Or.inr trivial)
  · refine b77_0 ?_
    try simp only [w_Ug, reduceIte, Nat.reduceEqDiff, Int.reduceEq, eq_self, h9]
    repeat' (first | apply And.intro | intro)
    all_goals (try first | omega | contradiction | exact Or.inl trivial | exact Or.inr trivial)
    exact c76 hT hN h9 hh (fun I' f => b77_15 ⟨Or.inl rfl, k0 (by omega) I' f⟩)
theorem c78 (hT : zT I K V P N) (hN : N ≤ 400) {h w : Int} (h9 : I 8 9 = h) (hh : 0 ≤ h ∧ h ≤ N) (hK : 0 ≤ K h ∧ K h ≤ 46) (hw : 0 ≤ w ∧ w ≤ 46) (k1 : K h = w → h < 400 → Q (some (w_i 1)) (w_U I 8 9 (h + 1)) J b) (k0 : ¬ K h = w → ∀ I', zB I I' 1 (P h) → Q (some (w_i 0)) I' J b) (k2 : K h = w → 400 ≤ h → ∀ I', zB I I' 2 (P h) → Q (some (w_i 0)) I' J b) : w_C xs xl 78 [.ref 8, w_i w] I J b Q := by
  have e15 := (hT h hh.1 hh.2).1
  refine e78 ?_
  by_cases c : K h = w
  · refine b78_0 ?_
    try simp only [w_Ug, reduceIte, Nat.reduceEqDiff, Int.reduceEq, eq_self, h9, e15]
    repeat' (first | apply And.intro | intro)
    all_goals (try first | omega | contradiction | exact Or.inl trivial | exact Or.inr trivial)
    exact c77 hT hN h9 hh (fun x => b78_17 ⟨Or.inr rfl, k1 c x⟩) (fun x I' f => b78_17 ⟨Or.inl rfl, k2 c x I' f⟩)
  · refine b78_0 ?_
    try simp only [w_Ug, reduceIte, Nat.reduceEqDiff, Int.reduceEq, eq_self, h9, e15]
    repeat' (first | apply And.intro | intro)
    all_goals (try first | omega | contradiction | exact Or.inl trivial | exact Or.inr trivial)
    exact c76 hT hN h9 hh (fun I' f => b78_25 ⟨Or.inl rfl, k0 c I' f⟩)
theorem c94 {o : Int} (ho : w_in o) (k : Q (some (w_i (z_rk o))) I J b) : w_C xs xl 94 [w_i o] I J b Q := by
  have kk : ∀ z, z_rk o = z → Q (some (w_i z)) I J b := fun z e => e ▸ k
  refine e94 ?_
  refine b94_0 ?_
  try simp only [w_Ug, reduceIte, Nat.reduceEqDiff, Int.reduceEq, eq_self, if_true]
  repeat' (first | apply And.intro | intro)
  all_goals (try first | omega | contradiction | exact Or.inl trivial | exact Or.inr trivial)
  all_goals exact kk _ (by unfold z_rk; repeat' split; all_goals omega)
theorem c102 {c v : Int} (h99 : I 9 9 = c) (hc : 0 ≤ c ∧ c < 404) (k : Q none (w_U (w_U I 12 c v) 9 9 (c + 1)) J b) : w_C xs xl 102 [.ref 9, w_i v] I J b Q := by
  refine e102 ?_
  refine b102_0 ?_
  try simp only [w_Ug, reduceIte, Nat.reduceEqDiff, Int.reduceEq, eq_self, h99]
  repeat' (first | apply And.intro | intro)
  all_goals (try first | omega | contradiction | exact Or.inl trivial | exact Or.inr trivial)
theorem c102n {c v : Int} (h99 : I 9 9 = c) (hc : 404 ≤ c ∧ c < 1000) (k : Q none I J b) : w_C xs xl 102 [.ref 9, w_i v] I J b Q := by
  refine e102 ?_
  refine b102_0 ?_
  try simp only [w_Ug, reduceIte, Nat.reduceEqDiff, Int.reduceEq, eq_self, h99]
  repeat' (first | apply And.intro | intro)
  all_goals (try first | omega | contradiction | exact Or.inl trivial | exact Or.inr trivial)
def pzX (c0 : Int) (a : Nat) (k : Int) : Bool := a == 19 || (a == 12 && decide (c0 ≤ k)) || (a == 8 && (k == 7 || k == 9)) || (a == 9 && k == 9)
theorem pzX_12 {c0 k : Int} (h : c0 ≤ k) : pzX c0 12 k = true := by
  unfold pzX
  rw [decide_eq_true h]
  rfl
theorem pzX_Z {c0 : Int} {I I' : w_I} (h : w_fr (pzX c0) I I') : w_fr pzZ I I' := w_frm h (fun a k e => by
  unfold pzZ at e
  unfold pzX
  have h1 : a ≠ 19 := fun x => by subst x; cases e
  have h2 : a ≠ 12 := fun x => by subst x; cases e
  have h3 : a ≠ 8 := fun x => by subst x; cases e
  have h4 : a ≠ 9 := fun x => by subst x; cases e
  simp [h1, h2, h3, h4])
/-- the class within an expression -/
def zX (I : w_I) (h c0 : Int) (W C : List Int) : Prop := I 8 9 = h ∧ I 8 7 = W.length ∧ f_stk (I 19) W ∧ I 9 9 = c0 + C.length ∧ z_at (I 12) c0 C
theorem zX_w {h c0 x : Int} {W C : List Int} (hx : zX I h c0 W C) : zX (w_U (w_U I 12 (c0 + C.length) x) 9 9 (c0 + C.length + 1)) h c0 W (C ++ [x]) := by
  obtain ⟨x1, x2, x3, x4, x5⟩ := hx
  refine ⟨?_, ?_, ?_, ?_, ?_⟩
  · rw [w_Ua (by decide), w_Ua (by decide)]
    exact x1
  · rw [w_Ua (by decide), w_Ua (by decide)]
    exact x2
  · rw [w_Ua (by decide), w_Ua (by decide)]
    exact x3
  · rw [w_Ug, if_pos rfl, if_pos rfl, z_lena]
    show _ = c0 + ((C.length : Int) + 1)
    omega
  · rw [w_Ua (by decide), w_U1]
    refine z_at_a C [x] c0 (z_at_c C c0 (fun j a c => ?_) x5) ⟨?_, trivial⟩
    · rw [u1g, if_neg (by omega)]
    · rw [u1g, if_pos rfl]
theorem c93 {c0 h least : Int} {W C : List Int} (hx : zX I h c0 W C) (wf : z_wf W) (hw : W.length ≤ 32) (h0 : 0 ≤ c0 ∧ c0 + C.length + z_nb W ≤ 404) (hl : 1 ≤ least ∧ least ≤ 2) (k : ∀ I', w_fr (pzX c0) I I' → zX I' h c0 (z_rd least W C).1 (z_rd least W C).2 → Q none I' J b) : w_C xs xl 93 [.ref 8, w_i least] I J b Q := by
  refine e93 ?_
  generalize hR : z_rd least W C = R at k
  have loop : ∀ (W C : List Int) (I1 : w_I), zX I1 h c0 W C → z_wf W → W.length ≤ 32 → c0 + C.length + z_nb W ≤ 404 → w_fr (pzX c0) I I1 → z_rd least W C = R → w_T xs xl 93 0 [some (.ref 8), some (w_i least)] [] [] I1 J b Q := by
    intro W
    induction W with
    | nil =>
      intro C I1 a0 a1 a2 a3 a4 a5
      have a5 : ([], C) = R := a5
      rw [← a5] at k
      have kk := k I1 a4 a0
      have e87 : I1 8 7 = 0 := a0.2.1
      refine b93_0 ?_
      try simp only [w_Ug, reduceIte, Nat.reduceEqDiff, Int.reduceEq, eq_self, e87]
      repeat' (first | apply And.intro | intro)
      all_goals (try first | omega | contradiction | exact Or.inl trivial | exact Or.inr trivial)
    | cons o W ih =>
      intro C I1 a0 a1 a2 a3 a4 a5
      obtain ⟨x1, x2, x3, x4, x5⟩ := a0
      have hlen := z_len o W
      rw [hlen] at x2
      have e19 : I1 19 W.length = o := x3.1
      have ho : w_in o := by
        rcases a1.2 with y | ⟨y, _⟩ <;> omega
      have rb := z_rk_b o
      have a5 : (if least ≤ z_rk o then z_rd least W (C ++ [20000 + o]) else (o :: W, C)) = R := a5
      refine b93_0 ?_
      try simp only [w_Ug, reduceIte, Nat.reduceEqDiff, Int.reduceEq, eq_self, x2, Int.add_sub_cancel, e19]
      repeat' (first | apply And.intro | intro)
      all_goals (try first | omega | contradiction | exact Or.inl trivial | exact Or.inr trivial)
      refine c94 ho ?_
      by_cases c : least ≤ z_rk o
      · rw [if_pos c] at a5
        have ho : o ≠ 14 := fun x => by have := rb.2.2.2 x; omega
        have e1 : z_nb (o :: W) = z_nb W + 1 := if_neg ho
        refine b93_21 ?_
        try simp only [w_Ug, reduceIte, Nat.reduceEqDiff, Int.reduceEq, eq_self, x2, Int.add_sub_cancel, e19]
        repeat' (first | apply And.intro | intro)
        all_goals (try first | omega | contradiction | exact Or.inl trivial | exact Or.inr trivial)
        refine c102 (c := c0 + C.length) (by rw [w_Ua (by decide)]; exact x4) (by omega) (b93_55 ?_)
        have hx1 : zX (w_U I1 8 7 W.length) h c0 W C := ⟨by simp [w_Ug]; exact x1, by simp [w_Ug], by rw [w_Ua (by decide)]; exact x3.2, by rw [w_Ua (by decide)]; exact x4, by rw [w_Ua (by decide)]; exact x5⟩
        have hla := z_lena C [20000 + o]
        have hl1 : (([20000 + o].length : Nat) : Int) = 1 := rfl
        exact ih (C ++ [20000 + o]) _ (zX_w hx1) a1.1 (by omega) (by omega) (w_frU (w_frU (w_frU a4 rfl) (pzX_12 (by omega))) rfl) a5
      · rw [if_neg c] at a5
        rw [← a5] at k
        have kk := k I1 a4 ⟨x1, by rw [hlen]; exact x2, x3, x4, x5⟩
        refine b93_21 ?_
        try simp only [w_Ug, reduceIte, Nat.reduceEqDiff, Int.reduceEq, eq_self, x2, Int.add_sub_cancel, e19]
        repeat' (first | apply And.intro | intro)
        all_goals (try first | omega | contradiction | exact Or.inl trivial | exact Or.inr trivial)
  exact loop W C I hx wf hw h0.2 w_frr hR
theorem c91 (hT : zT I K V P N) (hN : N ≤ 400) {h c : Int} (h9 : I 8 9 = h) (hh : 0 ≤ h ∧ h ≤ N) (hK : 0 ≤ K h ∧ K h ≤ 46) (h99 : I 9 9 = c) (hc : 0 ≤ c ∧ c ≤ 404) (k1 : K h = 3 → c < 404 → Q (some (w_i 1)) (w_U (w_U I 12 c (V h)) 9 9 (c + 1)) J b) (k2 : ¬ K h = 3 → 37 ≤ K h → c < 404 → Q (some (w_i 1)) (w_U (w_U I 12 c (10000 + K h - 37)) 9 9 (c + 1)) J b) (k3 : (K h = 3 ∨ 37 ≤ K h) → 404 ≤ c → Q (some (w_i 1)) I J b) (k0 : ¬ K h = 3 → ¬ 37 ≤ K h → Q (some (w_i 0)) I J b) : w_C xs xl 91 [.ref 8, w_i (K h)] I J b Q := by
  have e16 := (hT h hh.1 hh.2).2.1
  refine e91 ?_
  by_cases c3 : K h = 3
  · have k1 := k1 c3
    have k3 := k3 (Or.inl c3)
    rw [c3]
    refine b91_0 ?_
    try simp only [w_Ug, reduceIte, Nat.reduceEqDiff, Int.reduceEq, eq_self, h9, e16]
    repeat' (first | apply And.intro | intro)
    all_goals (try first | omega | contradiction | exact Or.inl trivial | exact Or.inr trivial)
    by_cases c5 : c < 404
    · exact c102 h99 ⟨hc.1, c5⟩ (b91_21 (k1 c5))
    · exact c102n h99 (by omega) (b91_21 (k3 (by omega)))
  · by_cases c4 : 37 ≤ K h
    · have k2 := k2 c3 c4
      have k3 := k3 (Or.inr c4)
      refine b91_0 ?_
      try simp only [w_Ug, reduceIte, Nat.reduceEqDiff, Int.reduceEq, eq_self, h9, e16]
      repeat' (first | apply And.intro | intro)
      all_goals (try first | omega | contradiction | exact Or.inl trivial | exact Or.inr trivial)
      by_cases c5 : c < 404
      · exact c102 h99 ⟨hc.1, c5⟩ (b91_50 (k2 c5))
      · exact c102n h99 (by omega) (b91_50 (k3 (by omega)))
    · have k0 := k0 c3 c4
      refine b91_0 ?_
      try simp only [w_Ug, reduceIte, Nat.reduceEqDiff, Int.reduceEq, eq_self, h9, e16]
      repeat' (first | apply And.intro | intro)
      all_goals (try first | omega | contradiction | exact Or.inl trivial | exact Or.inr trivial)
theorem c90 (hN : zN K V P N) (hT : zT I K V P N) {h c0 : Int} (h9 : I 8 9 = h) (hh : 1 ≤ h ∧ h ≤ N) (h99 : I 9 9 = c0) (hc : 0 ≤ c0 ∧ c0 ≤ 4 + h)
    (k1 : (z_ex K V (401 - h).toNat h 1 0 [] []).1 = 0 → ∀ I', w_fr (pzX c0) I I' → I' 8 9 = (z_ex K V (401 - h).toNat h 1 0 [] []).2.1 → I' 9 9 = c0 + (z_ex K V (401 - h).toNat h 1 0 [] []).2.2.length → z_at (I' 12) c0 (z_ex K V (401 - h).toNat h 1 0 [] []).2.2 → Q (some (w_i 1)) I' J b)
    (k0 : (z_ex K V (401 - h).toNat h 1 0 [] []).1 ≠ 0 → ∀ I', zB I I' (z_ex K V (401 - h).toNat h 1 0 [] []).1 (P (z_ex K V (401 - h).toNat h 1 0 [] []).2.1) → Q (some (w_i 0)) I' J b) : w_C xs xl 90 [.ref 8] I J b Q := by
  have hNN := hN.1.2
  refine e90 (b90_0 ?_)
  generalize hR : z_ex K V (401 - h).toNat h 1 0 [] [] = R at k1 k0
  have loop : ∀ (n : Nat) (h' need op l3 : Int) (u4 : Option Value) (W C : List Int) (I1 : w_I), (n : Int) + h' = 401 → h ≤ h' → h' ≤ N → l3 + h = h' → (need = 0 ∨ need = 1) → z_wf W → (z_br W : Int) = op → op ≤ 6 → (C.length : Int) + z_nb W + h ≤ h' → zX I1 h' c0 W C → w_fr (pzX c0) I I1 → z_ex K V n h' need op W C = R → w_T xs xl 90 11 [some (.ref 8), some (w_i op), some (w_i need), some (w_i l3), u4] [] [] I1 J b Q := by
    intro n
    induction n with
    | zero =>
      intro h' need op l3 u4 W C I1 a0 a1 a2
      omega
    | succ n ih =>
      intro h' need op l3 u4 W C I1 a0 a1 a2 a3 a4 a5 a6 a7 a8 a9 a10 a11
      have hT1 : zT I1 K V P N := zT_f hT (w_frA a10 (fun _ => rfl)) (w_frA a10 (fun _ => rfl)) (w_frA a10 (fun _ => rfl))
      obtain ⟨x1, x2, x3, x4, x5⟩ := a9
      have hx : zX I1 h' c0 W C := ⟨x1, x2, x3, x4, x5⟩
      have e15 := (hT1 h' (by omega) a2).1
      have kb := (hN.2.2.2.1 h' (by omega) a2).1
      have nb := z_nb_b W a5
      have tb := z_tr_b W
      have nx : 2 ≤ K h' → h' < 400 → h' + 1 ≤ N := by
        intro x y
        rcases hN.2.2.1 with z | z
        · by_cases e : h' = N
          · subst e
            omega
          · omega
        · omega
      have pas : ∀ (l1 l2 : Int) (u : Option Value) (I2 : w_I) (W' C' : List Int), 2 ≤ K h' → zX I2 h' c0 W' C' → w_fr (pzX c0) I I2 → (if 400 ≤ h' then (2, h', []) else z_ex K V n (h' + 1) l2 l1 W' C') = R → (l2 = 0 ∨ l2 = 1) → z_wf W' → (z_br W' : Int) = l1 → l1 ≤ 6 → (C'.length : Int) + z_nb W' + h ≤ h' + 1 → w_C xs xl 77 [.ref 8] I2 J b (fun v Ic Jc bc => w_T xs xl 90 171 [some (.ref 8), some (w_i l1), some (w_i l2), some (w_i l3), u] [] (w_pv v []) Ic Jc bc Q) := by
        intro l1 l2 u I2 W' C' d0 d1 d2 d3 d4 d5 d6 d7 d8
        have hT2 : zT I2 K V P N := zT_f hT (w_frA d2 (fun _ => rfl)) (w_frA d2 (fun _ => rfl)) (w_frA d2 (fun _ => rfl))
        refine c77 hT2 hNN d1.1 (by omega) (fun c => ?_) (fun c I' f => ?_)
        · rw [if_neg (by omega)] at d3
          have nxt := ih (h' + 1) l2 l1 (l3 + 1) u W' C' (w_U I2 8 9 (h' + 1)) (by omega) (by omega) (nx d0 c) (by omega) d4 d5 d6 d7 (by omega) ⟨by simp [w_Ug], by simp [w_Ug]; exact d1.2.1, by rw [w_Ua (by decide)]; exact d1.2.2.1, by rw [w_Ua (by decide)]; exact d1.2.2.2.1, by rw [w_Ua (by decide)]; exact d1.2.2.2.2⟩ (w_frU d2 rfl) d3
          refine b90_171 ?_
          try simp only [w_Ug, reduceIte, Nat.reduceEqDiff, Int.reduceEq, eq_self, if_true]
          repeat' (first | apply And.intro | intro)
          all_goals (try first | omega | contradiction | exact Or.inl trivial | exact Or.inr trivial)
        · rw [if_pos c] at d3
          rw [← d3] at k0
          have kk := k0 (by simp) I' (zB_f f (pzX_Z d2))
          refine b90_171 ?_
          try simp only [w_Ug, reduceIte, Nat.reduceEqDiff, Int.reduceEq, eq_self, if_true]
          repeat' (first | apply And.intro | intro)
          all_goals (try first | omega | contradiction | exact Or.inl trivial | exact Or.inr trivial)
      have bad : ∀ (z : Int) , (z = 1 ∨ z = 2) → ((z, h', []) : z_E) = R → ∀ I', zB I1 I' z (P h') → Q (some (w_i 0)) I' J b := by
        intro z hz e I' f
        rw [← e] at k0
        refine k0 ?_ I' (zB_f f (pzX_Z a10))
        show z ≠ 0
        omega
      unfold z_ex at a11
      rcases a4 with rfl | rfl
      · rw [if_neg (by decide)] at a11
        by_cases c1 : 6 ≤ K h' ∧ K h' ≤ 9
        · rw [if_pos c1] at a11
          have rk := z_rk_b (K h')
          have rk1 := rk.2.2.1 (by omega)
          obtain ⟨i1, i2, i3, i4, -⟩ := z_rd_b (least := z_rk (K h')) rk1 W C a5
          have nb2 := z_nb_b _ i1
          have tb2 := z_tr_b (z_rd (z_rk (K h')) W C).1
          refine b90_11 ?_
          try simp only [w_Ug, reduceIte, Nat.reduceEqDiff, Int.reduceEq, eq_self, x1, e15]
          repeat' (first | apply And.intro | intro)
          all_goals (try first | omega | contradiction | exact Or.inl trivial | exact Or.inr trivial)
          refine c94 (by omega) (b90_108 ?_)
          refine c93 hx a5 (by omega) (by omega) (by omega) (fun I2 f2 y2 => b90_111 ?_)
          obtain ⟨y1, y2, y3, y4, y5⟩ := y2
          refine e92 ?_
          generalize z_rd (z_rk (K h')) W C = D at a11 i1 i2 i3 i4 nb2 tb2 y2 y3 y4 y5
          refine b92_0 ?_
          try simp only [w_Ug, reduceIte, Nat.reduceEqDiff, Int.reduceEq, eq_self, y2]
          repeat' (first | apply And.intro | intro)
          all_goals (try first | omega | contradiction | exact Or.inl trivial | exact Or.inr trivial)
          refine b90_117 (pas op 1 _ _ (K h' :: D.1) D.2 (by omega) ⟨by simp [w_Ug]; exact y1, ?_, ?_, by simp [w_Ug]; exact y4, by rw [w_Ua (by decide), w_Ua (by decide)]; exact y5⟩ (w_frU (w_frU (w_frt a10 f2) rfl) rfl) a11 (Or.inr rfl) ⟨i1, Or.inr ⟨by omega, i4⟩⟩ ?_ a7 ?_)
          · rw [z_len]
            simp [w_Ug]
          · rw [w_Ua (by decide), w_U1]
            refine ⟨by rw [u1g, if_pos rfl], f_stk_c D.1 (fun i p q => ?_) y3⟩
            rw [u1g, if_neg (by omega)]
          · have e2 : z_br (K h' :: D.1) = z_br D.1 := if_neg (by omega)
            omega
          · have e1 : z_nb (K h' :: D.1) = z_nb D.1 + 1 := if_neg (by omega)
            omega
        · rw [if_neg c1] at a11
          obtain ⟨i1, i2, i3, i4, -⟩ := z_rd_b (least := 1) (by decide) W C a5
          obtain ⟨t1, t2⟩ := z_tr_1 i1 i4
          by_cases c2 : op = 0
          · rw [if_pos c2] at a11
            have fin : ∀ u : Option Value, w_C xs xl 93 [.ref 8, w_i 1] I1 J b (fun v Ic Jc bc => w_T xs xl 90 131 [some (.ref 8), some (w_i op), some (w_i 0), some (w_i l3), u] [] (w_pv v []) Ic Jc bc Q) := by
              intro u
              refine c93 hx a5 (by omega) (by omega) (by omega) (fun I2 f2 y2 => b90_131 ?_)
              rw [← a11] at k1
              exact k1 rfl I2 (w_frt a10 f2) y2.1 y2.2.2.2.1 y2.2.2.2.2
            refine b90_11 ?_
            try simp only [w_Ug, reduceIte, Nat.reduceEqDiff, Int.reduceEq, eq_self, x1, e15]
            repeat' (first | apply And.intro | intro)
            all_goals (try first | omega | contradiction | exact Or.inl trivial | exact Or.inr trivial)
            all_goals exact fin _
          · rw [if_neg c2] at a11
            by_cases c3 : K h' = 15
            · rw [if_pos c3] at a11
              obtain ⟨W', w1, w2, w3, w4⟩ := t2 (by omega)
              rw [w1, List.tail_cons] at a11
              have w4' : z_nb (14 :: W') = z_nb W' := rfl
              rw [w1] at i3
              have fin : ∀ u : Option Value, w_C xs xl 93 [.ref 8, w_i 1] I1 J b (fun v Ic Jc bc => w_T xs xl 90 145 [some (.ref 8), some (w_i op), some (w_i 0), some (w_i l3), u] [] (w_pv v []) Ic Jc bc Q) := by
                intro u
                refine c93 hx a5 (by omega) (by omega) (by omega) (fun I2 f2 y2 => b90_145 ?_)
                rw [w1] at y2
                obtain ⟨y1, y2, y3, y4, y5⟩ := y2
                refine pas (op + -1) 0 _ _ W' (z_rd 1 W C).2 (by omega) ⟨by simp [w_Ug]; exact y1, ?_, by rw [w_Ua (by decide)]; exact y3.2, by simp [w_Ug]; exact y4, by rw [w_Ua (by decide)]; exact y5⟩ (w_frU (w_frt a10 f2) rfl) a11 (Or.inl rfl) w2 (by omega) (by omega) (by omega)
                rw [z_len] at y2
                simp [w_Ug]
                omega
              refine b90_11 ?_
              try simp only [w_Ug, reduceIte, Nat.reduceEqDiff, Int.reduceEq, eq_self, x1, e15]
              repeat' (first | apply And.intro | intro)
              all_goals (try first | omega | contradiction | exact Or.inl trivial | exact Or.inr trivial)
              all_goals exact fin _
            · rw [if_neg c3] at a11
              have bd := bad 1 (Or.inl rfl) a11
              have fin : ∀ u : Option Value, w_C xs xl 76 [.ref 8, w_i 1] I1 J b (fun v Ic Jc bc => w_T xs xl 90 166 [some (.ref 8), some (w_i op), some (w_i 0), some (w_i l3), u] [] (w_pv v []) Ic Jc bc Q) := fun u => c76 hT1 hNN x1 (by omega) (fun I' f => b90_166 ⟨Or.inl rfl, bd I' f⟩)
              refine b90_11 ?_
              try simp only [w_Ug, reduceIte, Nat.reduceEqDiff, Int.reduceEq, eq_self, x1, e15]
              repeat' (first | apply And.intro | intro)
              all_goals (try first | omega | contradiction | exact Or.inl trivial | exact Or.inr trivial)
              all_goals exact fin _
      · rw [if_pos rfl] at a11
        by_cases c1 : K h' = 14
        · rw [if_pos c1] at a11
          by_cases c2 : op = 6
          · rw [if_pos c2] at a11
            have bd := bad 2 (Or.inr rfl) a11
            refine b90_11 ?_
            try simp only [w_Ug, reduceIte, Nat.reduceEqDiff, Int.reduceEq, eq_self, x1, e15]
            repeat' (first | apply And.intro | intro)
            all_goals (try first | omega | contradiction | exact Or.inl trivial | exact Or.inr trivial)
            exact c76 hT1 hNN x1 (by omega) (fun I' f => b90_51 ⟨Or.inl rfl, bd I' f⟩)
          · rw [if_neg c2] at a11
            refine b90_11 ?_
            try simp only [w_Ug, reduceIte, Nat.reduceEqDiff, Int.reduceEq, eq_self, x1, e15]
            repeat' (first | apply And.intro | intro)
            all_goals (try first | omega | contradiction | exact Or.inl trivial | exact Or.inr trivial)
            refine e92 ?_
            refine b92_0 ?_
            try simp only [w_Ug, reduceIte, Nat.reduceEqDiff, Int.reduceEq, eq_self, x2]
            repeat' (first | apply And.intro | intro)
            all_goals (try first | omega | contradiction | exact Or.inl trivial | exact Or.inr trivial)
            refine b90_61 (pas (op + 1) 1 _ _ (14 :: W) C (by omega) ⟨by simp [w_Ug]; exact x1, ?_, ?_, by simp [w_Ug]; exact x4, by rw [w_Ua (by decide), w_Ua (by decide)]; exact x5⟩ (w_frU (w_frU a10 rfl) rfl) a11 (Or.inr rfl) ⟨a5, Or.inl rfl⟩ ?_ (by omega) ?_)
            · rw [z_len]
              simp [w_Ug]
            · rw [w_Ua (by decide), w_U1]
              refine ⟨by rw [u1g, if_pos rfl], f_stk_c W (fun i p q => ?_) x3⟩
              rw [u1g, if_neg (by omega)]
            · have e2 : z_br (14 :: W) = z_br W + 1 := rfl
              omega
            · have e1 : z_nb (14 :: W) = z_nb W := rfl
              omega
        · rw [if_neg c1] at a11
          have l1 : ∀ v : Int, (((C ++ [v]).length : Nat) : Int) = C.length + 1 := fun v => by rw [z_lena]; rfl
          have fin : ∀ u : Option Value, w_C xs xl 91 [.ref 8, w_i (K h')] I1 J b (fun v Ic Jc bc => w_T xs xl 90 74 [some (.ref 8), some (w_i op), some (w_i 1), some (w_i l3), u] [] (w_pv v []) Ic Jc bc Q) := by
            intro u
            refine c91 hT1 hNN x1 (by omega) kb x4 (by omega) (fun c cc => ?_) (fun c d cc => ?_) (fun c cc => ?_) (fun c d => ?_)
            · rw [if_pos c] at a11
              have p := pas op 0 u _ W (C ++ [V h']) (by omega) (zX_w hx) (w_frU (w_frU a10 (pzX_12 (by omega))) rfl) a11 (Or.inl rfl) a5 a6 a7 (by rw [l1]; omega)
              refine b90_74 ?_
              try simp only [w_Ug, reduceIte, Nat.reduceEqDiff, Int.reduceEq, eq_self, if_true]
              repeat' (first | apply And.intro | intro)
              all_goals (try first | omega | contradiction | exact Or.inl trivial | exact Or.inr trivial)
            · rw [if_neg c, if_pos d] at a11
              have p := pas op 0 u _ W (C ++ [10000 + K h' - 37]) (by omega) (zX_w hx) (w_frU (w_frU a10 (pzX_12 (by omega))) rfl) a11 (Or.inl rfl) a5 a6 a7 (by rw [l1]; omega)
              refine b90_74 ?_
              try simp only [w_Ug, reduceIte, Nat.reduceEqDiff, Int.reduceEq, eq_self, if_true]
              repeat' (first | apply And.intro | intro)
              all_goals (try first | omega | contradiction | exact Or.inl trivial | exact Or.inr trivial)
            · have aa : (if 400 ≤ h' then (2, h', []) else z_ex K V n (h' + 1) 0 op W C) = R := by
                rw [if_pos (by omega), ← a11]
                by_cases d : K h' = 3
                · rw [if_pos d, if_pos (by omega)]
                · rw [if_neg d, if_pos (by omega), if_pos (by omega)]
              have p := pas op 0 u _ W C (by omega) hx a10 aa (Or.inl rfl) a5 a6 a7 (by omega)
              refine b90_74 ?_
              try simp only [w_Ug, reduceIte, Nat.reduceEqDiff, Int.reduceEq, eq_self, if_true]
              repeat' (first | apply And.intro | intro)
              all_goals (try first | omega | contradiction | exact Or.inl trivial | exact Or.inr trivial)
            · rw [if_neg c, if_neg d] at a11
              have bd := bad 1 (Or.inl rfl) a11
              refine b90_74 ?_
              try simp only [w_Ug, reduceIte, Nat.reduceEqDiff, Int.reduceEq, eq_self, if_true]
              repeat' (first | apply And.intro | intro)
              all_goals (try first | omega | contradiction | exact Or.inl trivial | exact Or.inr trivial)
              exact c76 hT1 hNN x1 (by omega) (fun I' f => b90_82 ⟨Or.inl rfl, bd I' f⟩)
          refine b90_11 ?_
          try simp only [w_Ug, reduceIte, Nat.reduceEqDiff, Int.reduceEq, eq_self, x1, e15]
          repeat' (first | apply And.intro | intro)
          all_goals (try first | omega | contradiction | exact Or.inl trivial | exact Or.inr trivial)
          all_goals exact fin _
  refine loop (401 - h).toNat h 1 0 0 none [] [] (w_U I 8 7 0) (by omega) (Int.le_refl _) hh.2 (by omega) (Or.inr rfl) trivial rfl (by decide) ?_ ⟨by simp [w_Ug]; exact h9, by simp [w_Ug], trivial, ?_, trivial⟩ (w_frU w_frr rfl) hR
  · show (0 : Int) + 0 + h ≤ h
    omega
  · rw [w_Ua (by decide), h99]
    show c0 = c0 + 0
    omega
end
