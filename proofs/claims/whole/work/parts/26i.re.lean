section
/-! reading, the reference: passing, failing, expressions -/
variable {xs : Nat → Int32} {xl : Nat} {I J : w_I} {b : Bool} {Q : Option Value → w_I → w_I → Bool → Prop}
variable {K V P M : Int → Int} {N : Int}
def pzY (a : Nat) (k : Int) : Bool := (a == 104 && decide (7 ≤ k)) || a == 123 || (a == 110 && decide (700 ≤ k ∧ k < 1400)) || (a == 111 && k == 1) || ((a == 112 || a == 113) && decide (500 ≤ k ∧ k < 1000)) || (Nat.ble 116 a && Nat.ble a 120 && decide (200 ≤ k ∧ k < 400))
/-- a fault -/
def zE (I I' : w_I) (st p : Int) : Prop := w_fr pzY I I' ∧ I' 104 8 = st ∧ I' 104 9 = p
theorem zE_f {I1 I' : w_I} {st p : Int} (h : zE I1 I' st p) (f : w_fr pzY I I1) : zE I I' st p := ⟨w_frt f h.1, h.2⟩
theorem zU_f {I' : w_I} (hT : zU I J K V P M N) (h15 : I' 106 = I 106) (h16 : I' 107 = I 107) (h17 : I' 108 = I 108) : zU I' J K V P M N := by
  intro i x y
  rw [h15, h16, h17]
  exact hT i x y
theorem zS_b {k : Int} (h : 0 ≤ k ∧ k ≤ 46) : (zS k = 0 ↔ k = 2) ∧ (zS k = 1 ↔ k = 3) ∧ (zS k = 2 ↔ 4 ≤ k ∧ k ≤ 15) ∧ (zS k = 3 ↔ 16 ≤ k) ∧ (zS k = 4 ↔ k = 0) ∧ 0 ≤ zS k ∧ zS k ≤ 5 := by
  unfold zS
  repeat' split
  all_goals omega
def zWi (c : Int) : Int := if c = 300 then 10 else if c = 301 then 11 else if c = 302 then 13 else t_sg c
theorem zWi_e {k : Int} (h : 4 ≤ k ∧ k ≤ 15) : zWi (zW k) = k := by
  have : k = 4 ∨ k = 5 ∨ k = 6 ∨ k = 7 ∨ k = 8 ∨ k = 9 ∨ k = 10 ∨ k = 11 ∨ k = 12 ∨ k = 13 ∨ k = 14 ∨ k = 15 := by omega
  rcases this with rfl | rfl | rfl | rfl | rfl | rfl | rfl | rfl | rfl | rfl | rfl | rfl <;> rfl
theorem zW_20 {k : Int} (h : 20 ≤ k) : zW k = if k ≤ 27 then k - 20 else if k = 28 then 9 else if k ≤ 32 then k + 1 else if k = 33 then 8 else if k = 34 then 12 else if k = 35 then 11 else if k = 36 then 10 else k - 24 := by
  unfold zW
  rw [if_neg (by omega), if_neg (by omega), if_neg (by omega), if_neg (by omega), if_neg (by omega), if_neg (by omega), if_neg (by omega), if_neg (by omega), if_neg (by omega), if_neg (by omega), if_neg (by omega), if_neg (by omega)]
theorem zW_i {k kk : Int} (h : 20 ≤ k ∧ k ≤ 46) (hh : 20 ≤ kk ∧ kk ≤ 46) (e : zW k = zW kk) : k = kk := by
  rw [zW_20 h.1, zW_20 hh.1] at e
  split at e
  · repeat' split at e
    all_goals omega
  · split at e
    · repeat' split at e
      all_goals omega
    · split at e
      · repeat' split at e
        all_goals omega
      · repeat' split at e
        all_goals omega
theorem s175 (hT : zU I J K V P M N) (hN : N ≤ 400) {h z : Int} (h9 : I 104 7 = h) (hh : 0 ≤ h ∧ h ≤ N) (k : ∀ I', zE I I' z (P h) → Q (some (w_i 0)) I' J b) : w_C xs xl 175 [.ref 104, w_i z] I J b Q := by
  have e17 := (hT h hh.1 hh.2).2.1
  have kk := k (w_U (w_U I 104 8 z) 104 9 (P h)) ⟨w_frU (w_frU w_frr rfl) rfl, by simp [w_Ug], by simp [w_Ug]⟩
  refine e175 ?_
  refine b175_0 ?_
  try simp only [w_Ug, reduceIte, Nat.reduceEqDiff, Int.reduceEq, eq_self, h9, e17]
  repeat' (first | apply And.intro | intro)
  all_goals (try first | omega | contradiction | exact Or.inl trivial | exact Or.inr trivial)
theorem s177 (hT : zU I J K V P M N) (hN : N ≤ 400) {h : Int} (h9 : I 104 7 = h) (hh : 0 ≤ h ∧ h ≤ N) (k1 : h < 400 → Q (some (w_i 1)) (w_U I 104 7 (h + 1)) J b) (k0 : 400 ≤ h → ∀ I', zE I I' 2 (P h) → Q (some (w_i 0)) I' J b) : w_C xs xl 177 [.ref 104] I J b Q := by
  refine e177 ?_
  by_cases c : h < 400
  · have kk := k1 c
    refine b177_0 ?_
    try simp only [w_Ug, reduceIte, Nat.reduceEqDiff, Int.reduceEq, eq_self, h9]
    repeat' (first | apply And.intro | intro)
    all_goals (try first | omega | contradiction | exact Or.inl trivial | exact Or.inr trivial)
  · refine b177_0 ?_
    try simp only [w_Ug, reduceIte, Nat.reduceEqDiff, Int.reduceEq, eq_self, h9]
    repeat' (first | apply And.intro | intro)
    all_goals (try first | omega | contradiction | exact Or.inl trivial | exact Or.inr trivial)
    exact s175 hT hN h9 hh (fun I' f => b177_15 ⟨Or.inl rfl, k0 (by omega) I' f⟩)
theorem s178 (hT : zU I J K V P M N) (hN : N ≤ 400) {h c kk : Int} (h9 : I 104 7 = h) (hh : 0 ≤ h ∧ h ≤ N) (hK : 0 ≤ K h ∧ K h ≤ 46) (hc : zW kk = c) (hkk : 4 ≤ kk ∧ kk ≤ 15) (k1 : K h = kk → Q (some (w_i 1)) I J b) (k0 : ¬ K h = kk → Q (some (w_i 0)) I J b) : w_C xs xl 178 [.ref 104, w_i c] I J b Q := by
  obtain ⟨u1, u2, u3, u4, u5⟩ := hT h hh.1 hh.2
  have sb := zS_b hK
  have cb := zW_b (k := kk) (by omega)
  refine e178 ?_
  by_cases c1 : 4 ≤ K h ∧ K h ≤ 15
  · have u4 := u4 c1.1
    have wb := zW_b (k := K h) (by omega)
    by_cases c2 : K h = kk
    · have k1 := k1 c2
      rw [c2, hc] at u4
      refine b178_0 ?_
      try simp only [w_Ug, reduceIte, Nat.reduceEqDiff, Int.reduceEq, eq_self, h9, u1, u4]
      repeat' (first | apply And.intro | intro)
      all_goals (try first | omega | contradiction | exact Or.inl trivial | exact Or.inr trivial)
    · have k0 := k0 c2
      have : zW (K h) ≠ c := fun x => c2 (by rw [← zWi_e c1, ← zWi_e hkk, x, hc])
      refine b178_0 ?_
      try simp only [w_Ug, reduceIte, Nat.reduceEqDiff, Int.reduceEq, eq_self, h9, u1, u4]
      repeat' (first | apply And.intro | intro)
      all_goals (try first | omega | contradiction | exact Or.inl trivial | exact Or.inr trivial)
  · have k0 := k0 (by omega)
    refine b178_0 ?_
    try simp only [w_Ug, reduceIte, Nat.reduceEqDiff, Int.reduceEq, eq_self, h9, u1]
    repeat' (first | apply And.intro | intro)
    all_goals (try first | omega | contradiction | exact Or.inl trivial | exact Or.inr trivial)
theorem s179 (hT : zU I J K V P M N) (hN : N ≤ 400) {h c kk : Int} (h9 : I 104 7 = h) (hh : 0 ≤ h ∧ h ≤ N) (hK : 0 ≤ K h ∧ K h ≤ 46) (hK2 : K h ≤ 15 ∨ 20 ≤ K h) (hc : zW kk = c) (hkk : 20 ≤ kk ∧ kk ≤ 46) (k1 : K h = kk → Q (some (w_i 1)) I J b) (k0 : ¬ K h = kk → Q (some (w_i 0)) I J b) : w_C xs xl 179 [.ref 104, w_i c] I J b Q := by
  obtain ⟨u1, u2, u3, u4, u5⟩ := hT h hh.1 hh.2
  have sb := zS_b hK
  have cb := zW_b (k := kk) (by omega)
  refine e179 ?_
  by_cases c1 : 20 ≤ K h
  · have u4 := u4 (by omega)
    have wb := zW_b (k := K h) (by omega)
    by_cases c2 : K h = kk
    · have k1 := k1 c2
      rw [c2, hc] at u4
      refine b179_0 ?_
      try simp only [w_Ug, reduceIte, Nat.reduceEqDiff, Int.reduceEq, eq_self, h9, u1, u4]
      repeat' (first | apply And.intro | intro)
      all_goals (try first | omega | contradiction | exact Or.inl trivial | exact Or.inr trivial)
    · have k0 := k0 c2
      have : zW (K h) ≠ c := fun x => c2 (zW_i ⟨c1, hK.2⟩ hkk (by rw [x, hc]))
      refine b179_0 ?_
      try simp only [w_Ug, reduceIte, Nat.reduceEqDiff, Int.reduceEq, eq_self, h9, u1, u4]
      repeat' (first | apply And.intro | intro)
      all_goals (try first | omega | contradiction | exact Or.inl trivial | exact Or.inr trivial)
  · have k0 := k0 (by omega)
    refine b179_0 ?_
    try simp only [w_Ug, reduceIte, Nat.reduceEqDiff, Int.reduceEq, eq_self, h9, u1]
    repeat' (first | apply And.intro | intro)
    all_goals (try first | omega | contradiction | exact Or.inl trivial | exact Or.inr trivial)
theorem s180 (hT : zU I J K V P M N) (hN : N ≤ 400) {h so kk : Int} (h9 : I 104 7 = h) (hh : 0 ≤ h ∧ h ≤ N) (hK : 0 ≤ K h ∧ K h ≤ 46) (hso : kk = so + 2 ∧ (so = 0 ∨ so = 1)) (k1 : K h = kk → h < 400 → Q (some (w_i 1)) (w_U I 104 7 (h + 1)) J b) (k0 : ¬ K h = kk → ∀ I', zE I I' 1 (P h) → Q (some (w_i 0)) I' J b) (k2 : K h = kk → 400 ≤ h → ∀ I', zE I I' 2 (P h) → Q (some (w_i 0)) I' J b) : w_C xs xl 180 [.ref 104, w_i so] I J b Q := by
  obtain ⟨u1, u2, u3, u4, u5⟩ := hT h hh.1 hh.2
  have sb := zS_b hK
  refine e180 ?_
  by_cases c : K h = kk
  · have e : zS (K h) = so := by omega
    rw [e] at u1
    refine b180_0 ?_
    try simp only [w_Ug, reduceIte, Nat.reduceEqDiff, Int.reduceEq, eq_self, h9, u1]
    repeat' (first | apply And.intro | intro)
    all_goals (try first | omega | contradiction | exact Or.inl trivial | exact Or.inr trivial)
    exact s177 hT hN h9 hh (fun x => b180_17 ⟨Or.inr rfl, k1 c x⟩) (fun x I' f => b180_17 ⟨Or.inl rfl, k2 c x I' f⟩)
  · have e : zS (K h) ≠ so := by omega
    refine b180_0 ?_
    try simp only [w_Ug, reduceIte, Nat.reduceEqDiff, Int.reduceEq, eq_self, h9, u1]
    repeat' (first | apply And.intro | intro)
    all_goals (try first | omega | contradiction | exact Or.inl trivial | exact Or.inr trivial)
    exact s175 hT hN h9 hh (fun I' f => b180_25 ⟨Or.inl rfl, k0 c I' f⟩)
/-- the reference's words -/
def z_op (x : Int) : Int := if x < 10000 then 0 else if x < 20000 then 1 else x - 20004
def z_va (x : Int) : Int := if x < 10000 then x else if x < 20000 then x - 10000 else 0
def z_ro (op va : Int → Int) (k : Int) (C : List Int) : Prop := z_at op k (C.map z_op) ∧ z_at va k (C.map z_va)
def z_wo (o : Int) : Int := if o = 14 then 0 else o - 4
def pzW (c : Int) (a : Nat) (k : Int) : Bool := (a == 104 && (k == 7 || k == 26)) || a == 123 || (a == 111 && k == 1) || ((a == 112 || a == 113) && decide (500 + c ≤ k ∧ k < 1000))
theorem pzW_112 {c k : Int} (h : 500 + c ≤ k ∧ k < 1000) : pzW c 112 k = true ∧ pzW c 113 k = true := by
  unfold pzW
  rw [decide_eq_true h]
  exact ⟨rfl, rfl⟩
theorem pzW_Y {c : Int} (hc : 0 ≤ c) {I I' : w_I} (h : w_fr (pzW c) I I') : w_fr pzY I I' := w_frm h (fun a k e => by
  unfold pzY at e
  unfold pzW
  simp only [Bool.or_eq_false_iff, Bool.and_eq_false_iff, decide_eq_false_iff_not, beq_eq_false_iff_ne, ne_eq] at e ⊢
  obtain ⟨⟨⟨⟨⟨e1, e2⟩, e3⟩, e4⟩, e5⟩, e6⟩ := e
  refine ⟨⟨⟨?_, e2⟩, e4⟩, ?_⟩
  · rcases e1 with x | x
    · exact Or.inl x
    · exact Or.inr ⟨by omega, by omega⟩
  · rcases e5 with x | x
    · exact Or.inl x
    · exact Or.inr (by omega))
/-- the reference within an expression -/
def zY (I : w_I) (h c : Int) (W C : List Int) : Prop := I 104 7 = h ∧ I 104 26 = W.length ∧ f_stk (I 123) (W.map z_wo) ∧ I 111 1 = c + C.length ∧ z_ro (I 112) (I 113) (500 + c) C
theorem zY_w {h c x : Int} {W C : List Int} (hx : zY I h c W C) : zY (w_U (w_U (w_U I 112 (500 + (c + C.length)) (z_op x)) 113 (500 + (c + C.length)) (z_va x)) 111 1 (c + C.length + 1)) h c W (C ++ [x]) := by
  obtain ⟨x1, x2, x3, x4, x5, x6⟩ := hx
  refine ⟨?_, ?_, ?_, ?_, ?_, ?_⟩
  · rw [w_Ua (by decide), w_Ua (by decide), w_Ua (by decide)]
    exact x1
  · rw [w_Ua (by decide), w_Ua (by decide), w_Ua (by decide)]
    exact x2
  · rw [w_Ua (by decide), w_Ua (by decide), w_Ua (by decide)]
    exact x3
  · rw [w_Ug, if_pos rfl, if_pos rfl, z_lena]
    show _ = c + ((C.length : Int) + 1)
    omega
  · rw [w_Ua (by decide), w_Ua (by decide), w_U1, List.map_append]
    refine z_at_a _ _ _ (z_at_c _ _ (fun j a c => ?_) x5) ⟨?_, trivial⟩
    · rw [List.length_map] at c
      rw [u1g, if_neg (by omega)]
    · rw [List.length_map, u1g, if_pos (by omega)]
  · rw [w_Ua (by decide), w_U1, w_Ua (by decide), List.map_append]
    refine z_at_a _ _ _ (z_at_c _ _ (fun j a c => ?_) x6) ⟨?_, trivial⟩
    · rw [List.length_map] at c
      rw [u1g, if_neg (by omega)]
    · rw [List.length_map, u1g, if_pos (by omega)]
theorem s182 {c op va : Int} (h1 : I 111 1 = c) (hc : 0 ≤ c ∧ c < 1500) (k : Q none (w_U (w_U (w_U I 112 (500 + c) op) 113 (500 + c) va) 111 1 (c + 1)) J b) : w_C xs xl 182 [.ref 104, w_i op, w_i va] I J b Q := by
  refine e182 ?_
  refine b182_0 ?_
  try simp only [w_Ug, reduceIte, Nat.reduceEqDiff, Int.reduceEq, eq_self, h1]
  repeat' (first | apply And.intro | intro)
  all_goals (try first | omega | contradiction | exact Or.inl trivial | exact Or.inr trivial)
theorem s183 {o : Int} (ho : o = 6 ∨ o = 7 ∨ o = 8 ∨ o = 9 ∨ o = 14) (k : Q (some (w_i (z_rk o))) I J b) : w_C xs xl 183 [w_i (z_wo o)] I J b Q := by
  have kk : ∀ z, z_rk o = z → Q (some (w_i z)) I J b := fun z e => e ▸ k
  have e : z_wo o = if o = 14 then 0 else o - 4 := rfl
  refine e183 ?_
  rw [e]
  rcases ho with rfl | rfl | rfl | rfl | rfl
  · have k := kk 1 rfl
    rw [if_neg (by decide)]
    refine b183_0 ?_
    try simp only [w_Ug, reduceIte, Nat.reduceEqDiff, Int.reduceEq, eq_self, if_true]
    repeat' (first | apply And.intro | intro)
    all_goals (try first | omega | contradiction | exact Or.inl trivial | exact Or.inr trivial)
  · have k := kk 1 rfl
    rw [if_neg (by decide)]
    refine b183_0 ?_
    try simp only [w_Ug, reduceIte, Nat.reduceEqDiff, Int.reduceEq, eq_self, if_true]
    repeat' (first | apply And.intro | intro)
    all_goals (try first | omega | contradiction | exact Or.inl trivial | exact Or.inr trivial)
  · have k := kk 2 rfl
    rw [if_neg (by decide)]
    refine b183_0 ?_
    try simp only [w_Ug, reduceIte, Nat.reduceEqDiff, Int.reduceEq, eq_self, if_true]
    repeat' (first | apply And.intro | intro)
    all_goals (try first | omega | contradiction | exact Or.inl trivial | exact Or.inr trivial)
  · have k := kk 2 rfl
    rw [if_neg (by decide)]
    refine b183_0 ?_
    try simp only [w_Ug, reduceIte, Nat.reduceEqDiff, Int.reduceEq, eq_self, if_true]
    repeat' (first | apply And.intro | intro)
    all_goals (try first | omega | contradiction | exact Or.inl trivial | exact Or.inr trivial)
  · have k := kk 0 rfl
    rw [if_pos rfl]
    refine b183_0 ?_
    try simp only [w_Ug, reduceIte, Nat.reduceEqDiff, Int.reduceEq, eq_self, if_true]
    repeat' (first | apply And.intro | intro)
    all_goals (try first | omega | contradiction | exact Or.inl trivial | exact Or.inr trivial)
theorem s184 {c h least : Int} {W C : List Int} (hx : zY I h c W C) (wf : z_wf W) (hw : W.length ≤ 400) (h0 : 0 ≤ c ∧ c + C.length + z_nb W ≤ 490) (hl : 1 ≤ least ∧ least ≤ 2) (k : ∀ I', w_fr (pzW c) I I' → zY I' h c (z_rd least W C).1 (z_rd least W C).2 → Q none I' J b) : w_C xs xl 184 [.ref 104, w_i least, w_i 0] I J b Q := by
  refine e184 ?_
  generalize hR : z_rd least W C = R at k
  have loop : ∀ (W C : List Int) (I1 : w_I), zY I1 h c W C → z_wf W → W.length ≤ 400 → c + C.length + z_nb W ≤ 490 → w_fr (pzW c) I I1 → z_rd least W C = R → w_T xs xl 184 0 [some (.ref 104), some (w_i least), some (w_i 0)] [] [] I1 J b Q := by
    intro W
    induction W with
    | nil =>
      intro C I1 a0 a1 a2 a3 a4 a5
      have a5 : ([], C) = R := a5
      rw [← a5] at k
      have kk := k I1 a4 a0
      have e87 : I1 104 26 = 0 := a0.2.1
      refine b184_0 ?_
      try simp only [w_Ug, reduceIte, Nat.reduceEqDiff, Int.reduceEq, eq_self, e87]
      repeat' (first | apply And.intro | intro)
      all_goals (try first | omega | contradiction | exact Or.inl trivial | exact Or.inr trivial)
    | cons o W ih =>
      intro C I1 a0 a1 a2 a3 a4 a5
      obtain ⟨x1, x2, x3, x4, x5⟩ := a0
      have hlen := z_len o W
      rw [hlen] at x2
      have e19 : I1 123 W.length = z_wo o := by
        have := x3.1
        rw [List.length_map] at this
        exact this
      have ho : o = 6 ∨ o = 7 ∨ o = 8 ∨ o = 9 ∨ o = 14 := by
        rcases a1.2 with y | ⟨y, _⟩ <;> omega
      have rb := z_rk_b o
      have a5 : (if least ≤ z_rk o then z_rd least W (C ++ [20000 + o]) else (o :: W, C)) = R := a5
      refine b184_0 ?_
      try simp only [w_Ug, reduceIte, Nat.reduceEqDiff, Int.reduceEq, eq_self, x2, Int.add_sub_cancel, e19]
      repeat' (first | apply And.intro | intro)
      all_goals (try first | omega | contradiction | exact Or.inl trivial | exact Or.inr trivial)
      refine s183 ho ?_
      by_cases cc : least ≤ z_rk o
      · rw [if_pos cc] at a5
        have ho' : o ≠ 14 := fun x => by have := rb.2.2.2 x; omega
        have e1 : z_nb (o :: W) = z_nb W + 1 := if_neg ho'
        have e2 : z_op (20000 + o) = z_wo o := by
          unfold z_op z_wo
          rw [if_neg (by omega), if_neg (by omega), if_neg ho']
          omega
        have e3 : z_va (20000 + o) = 0 := by
          unfold z_va
          rw [if_neg (by omega), if_neg (by omega)]
        have hx1 : zY (w_U I1 104 26 W.length) h c W C := ⟨by simp [w_Ug]; exact x1, by simp [w_Ug], by rw [w_Ua (by decide)]; exact x3.2, by rw [w_Ua (by decide)]; exact x4, by rw [w_Ua (by decide), w_Ua (by decide)]; exact x5⟩
        have hx2 := zY_w (x := 20000 + o) hx1
        rw [e2, e3] at hx2
        have hla := z_lena C [20000 + o]
        have hl1 : (([20000 + o].length : Nat) : Int) = 1 := rfl
        have p1 := pzW_112 (c := c) (k := 500 + (c + C.length)) (by omega)
        refine b184_22 ?_
        try simp only [w_Ug, reduceIte, Nat.reduceEqDiff, Int.reduceEq, eq_self, x2, Int.add_sub_cancel, e19]
        repeat' (first | apply And.intro | intro)
        all_goals (try first | omega | contradiction | exact Or.inl trivial | exact Or.inr trivial)
        refine s182 (c := c + C.length) (by rw [w_Ua (by decide)]; exact x4) (by omega) (b184_50 ?_)
        exact ih (C ++ [20000 + o]) _ hx2 a1.1 (by simp at a2; omega) (by omega) (w_frU (w_frU (w_frU (w_frU a4 rfl) p1.1) p1.2) rfl) a5
      · rw [if_neg cc] at a5
        rw [← a5] at k
        have kk := k I1 a4 ⟨x1, by rw [hlen]; exact x2, x3, x4, x5⟩
        refine b184_22 ?_
        try simp only [w_Ug, reduceIte, Nat.reduceEqDiff, Int.reduceEq, eq_self, x2, Int.add_sub_cancel, e19]
        repeat' (first | apply And.intro | intro)
        all_goals (try first | omega | contradiction | exact Or.inl trivial | exact Or.inr trivial)
  exact loop W C I hx wf hw h0.2 w_frr hR
theorem zY_p {h c : Int} {W C : List Int} {o : Int} (hx : zY I h c W C) : zY (w_U (w_U I 123 W.length (z_wo o)) 104 26 (W.length + 1)) h c (o :: W) C := by
  obtain ⟨x1, x2, x3, x4, x5⟩ := hx
  refine ⟨by simp [w_Ug]; exact x1, by rw [z_len]; simp [w_Ug], ?_, by rw [w_Ua (by decide), w_Ua (by decide)]; exact x4, by rw [w_Ua (by decide), w_Ua (by decide), w_Ua (by decide), w_Ua (by decide)]; exact x5⟩
  rw [w_Ua (by decide), w_U1]
  refine ⟨?_, f_stk_c _ (fun i p q => ?_) x3⟩
  · rw [List.length_map, u1g, if_pos rfl]
  · rw [List.length_map] at q
    rw [u1g, if_neg (by omega)]
theorem s185 {o : Int} {W : List Int} (x2 : I 104 26 = W.length) (hw : W.length < 400) (k : Q none (w_U (w_U I 123 W.length o) 104 26 (W.length + 1)) J b) : w_C xs xl 185 [.ref 104, w_i o] I J b Q := by
  refine e185 ?_
  refine b185_0 ?_
  try simp only [w_Ug, reduceIte, Nat.reduceEqDiff, Int.reduceEq, eq_self, x2]
  repeat' (first | apply And.intro | intro)
  all_goals (try first | omega | contradiction | exact Or.inl trivial | exact Or.inr trivial)
end
