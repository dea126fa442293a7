section
/-! reading, the reference: tokens -/
variable {xs : Nat → Int32} {xl : Nat} {I J : w_I} {b : Bool} {Q : Option Value → w_I → w_I → Bool → Prop}
variable {G : Int → Int} {n : Int}
def zS (k : Int) : Int := if k = 0 then 4 else if k = 1 then 5 else if k = 2 then 0 else if k = 3 then 1 else if k ≤ 15 then 2 else 3
def zW (k : Int) : Int := if k = 4 then 59 else if k = 5 then 61 else if k = 6 then 43 else if k = 7 then 45 else if k = 8 then 42 else if k = 9 then 47 else if k = 10 then 300 else if k = 11 then 301 else if k = 12 then 60 else if k = 13 then 302 else if k = 14 then 40 else if k = 15 then 41 else if k ≤ 27 then k - 20 else if k = 28 then 9 else if k ≤ 32 then k + 1 else if k = 33 then 8 else if k = 34 then 12 else if k = 35 then 11 else if k = 36 then 10 else k - 24
def zV (k : Int) : Int := if k = 2 then -1 else zW k
def zH (I : w_I) (G : Int → Int) (n : Int) : Prop := I 104 0 = n ∧ (0 ≤ n ∧ n ≤ 2000) ∧ (∀ k, 0 ≤ k → k < n → I 105 k = G k) ∧ (∀ k, n ≤ k → G k = 0) ∧ ∀ k, 0 ≤ k → 0 ≤ G k ∧ G k < 256
theorem zH_f {I' : w_I} (hb : zH I G n) (h8 : I' 104 0 = I 104 0) (h1 : I' 105 = I 105) : zH I' G n := by
  obtain ⟨a, c, d, e⟩ := hb
  refine ⟨h8.trans a, c, ?_, e⟩
  rw [h1]
  exact d
theorem s167 (hb : zH I G n) {a : Int} (ha : 0 ≤ a ∧ a ≤ 2001) (k : Q (some (w_i (G a))) I J b) : w_C xs xl 167 [.ref 104, w_i a] I J b Q := by
  obtain ⟨h1, h2, h3, h4, h5⟩ := hb
  refine e167 ?_
  by_cases c : a < n
  · have h3 := h3 a ha.1 c
    rw [← h3] at k
    refine b167_0 ?_
    try simp only [w_Ug, reduceIte, Nat.reduceEqDiff, Int.reduceEq, eq_self, h1]
    repeat' (first | apply And.intro | intro)
    all_goals (try first | omega | contradiction | exact Or.inl trivial | exact Or.inr trivial)
  · have h4 := h4 a (by omega)
    rw [h4] at k
    refine b167_0 ?_
    try simp only [w_Ug, reduceIte, Nat.reduceEqDiff, Int.reduceEq, eq_self, h1]
    repeat' (first | apply And.intro | intro)
    all_goals (try first | omega | contradiction | exact Or.inl trivial | exact Or.inr trivial)
theorem s168 (hb : zH I G n) {a : Int} (ha : 0 ≤ a ∧ a ≤ 2001) (k1 : 97 ≤ G a ∧ G a ≤ 122 → Q (some (w_i 1)) I J b) (k0 : ¬ (97 ≤ G a ∧ G a ≤ 122) → Q (some (w_i 0)) I J b) : w_C xs xl 168 [.ref 104, w_i a] I J b Q := by
  have g := hb.2.2.2.2 a ha.1
  refine e168 (b168_0 (s167 hb ha ?_))
  by_cases c : 97 ≤ G a
  · refine b168_5 ?_
    try simp only [w_Ug, reduceIte, Nat.reduceEqDiff, Int.reduceEq, eq_self, if_true]
    repeat' (first | apply And.intro | intro)
    all_goals (try first | omega | contradiction | exact Or.inl trivial | exact Or.inr trivial)
    refine s167 hb ha ?_
    by_cases c2 : G a ≤ 122
    · have kk := k1 ⟨c, c2⟩
      refine b168_15 ?_
      try simp only [w_Ug, reduceIte, Nat.reduceEqDiff, Int.reduceEq, eq_self, if_true]
      repeat' (first | apply And.intro | intro)
      all_goals (try first | omega | contradiction | exact Or.inl trivial | exact Or.inr trivial)
    · have kk := k0 (by omega)
      refine b168_15 ?_
      try simp only [w_Ug, reduceIte, Nat.reduceEqDiff, Int.reduceEq, eq_self, if_true]
      repeat' (first | apply And.intro | intro)
      all_goals (try first | omega | contradiction | exact Or.inl trivial | exact Or.inr trivial)
  · have kk := k0 (by omega)
    refine b168_5 ?_
    try simp only [w_Ug, reduceIte, Nat.reduceEqDiff, Int.reduceEq, eq_self, if_true]
    repeat' (first | apply And.intro | intro)
    all_goals (try first | omega | contradiction | exact Or.inl trivial | exact Or.inr trivial)
theorem s169 (hb : zH I G n) {a : Int} (ha : 0 ≤ a ∧ a ≤ 2001) (k1 : 48 ≤ G a ∧ G a ≤ 57 → Q (some (w_i 1)) I J b) (k0 : ¬ (48 ≤ G a ∧ G a ≤ 57) → Q (some (w_i 0)) I J b) : w_C xs xl 169 [.ref 104, w_i a] I J b Q := by
  have g := hb.2.2.2.2 a ha.1
  refine e169 (b169_0 (s167 hb ha ?_))
  by_cases c : 48 ≤ G a
  · refine b169_5 ?_
    try simp only [w_Ug, reduceIte, Nat.reduceEqDiff, Int.reduceEq, eq_self, if_true]
    repeat' (first | apply And.intro | intro)
    all_goals (try first | omega | contradiction | exact Or.inl trivial | exact Or.inr trivial)
    refine s167 hb ha ?_
    by_cases c2 : G a ≤ 57
    · have kk := k1 ⟨c, c2⟩
      refine b169_15 ?_
      try simp only [w_Ug, reduceIte, Nat.reduceEqDiff, Int.reduceEq, eq_self, if_true]
      repeat' (first | apply And.intro | intro)
      all_goals (try first | omega | contradiction | exact Or.inl trivial | exact Or.inr trivial)
    · have kk := k0 (by omega)
      refine b169_15 ?_
      try simp only [w_Ug, reduceIte, Nat.reduceEqDiff, Int.reduceEq, eq_self, if_true]
      repeat' (first | apply And.intro | intro)
      all_goals (try first | omega | contradiction | exact Or.inl trivial | exact Or.inr trivial)
  · have kk := k0 (by omega)
    refine b169_5 ?_
    try simp only [w_Ug, reduceIte, Nat.reduceEqDiff, Int.reduceEq, eq_self, if_true]
    repeat' (first | apply And.intro | intro)
    all_goals (try first | omega | contradiction | exact Or.inl trivial | exact Or.inr trivial)
theorem s171 {v : Int} (hv : w_inl v) (k : Q (some (w_i (zV (t_wd v)))) I J b) : w_C xs xl 171 [w_l v] I J b Q := by
  have kk : ∀ z, zV (t_wd v) = z → Q (some (w_i z)) I J b := fun z e => e ▸ k
  refine e171 (b171_0 ⟨hv, ?_⟩)
  repeat' (first | apply And.intro | intro)
  all_goals first
    | (refine kk _ ?_; rename_i h; rw [h]; decide +kernel)
    | (refine kk _ ?_; have e : t_wd v = 2 := (by unfold t_wd t_wt; simp only [t_wi]; repeat' split; all_goals omega); rw [e]; rfl)
def t_si (x y : Int) : Int := if y = 61 ∧ (x = 61 ∨ x = 33 ∨ x = 60) then zW (t_db x) else if t_sg x = 1 then 0 else zW (t_sg x)
theorem s172 (hb : zH I G n) {a : Int} (ha : 0 ≤ a ∧ a ≤ 2000) (k : Q (some (w_i (t_si (G a) (G (a + 1))))) I J b) : w_C xs xl 172 [.ref 104, w_i a] I J b Q := by
  have g := hb.2.2.2.2 a ha.1
  have g1 := hb.2.2.2.2 (a + 1) (by omega)
  refine e172 (b172_0 (s167 hb (by omega) (b172_5 (s167 hb (by omega) ?_))))
  generalize G a = x at k g
  generalize G (a + 1) = y at k g1
  have kk : ∀ z, t_si x y = z → Q (some (w_i z)) I J b := fun z e => e ▸ k
  have f1 : y = 61 → x = 61 → t_si x y = 300 := fun h1 h2 => by rw [h1, h2]; rfl
  have f2 : y = 61 → x = 33 → t_si x y = 301 := fun h1 h2 => by rw [h1, h2]; rfl
  have f3 : y = 61 → x = 60 → t_si x y = 302 := fun h1 h2 => by rw [h1, h2]; rfl
  have f4 : ¬ y = 61 → x = 61 → t_si x y = x := fun h1 h2 => by unfold t_si; rw [if_neg (fun h => h1 h.1), h2]; rfl
  have f5 : ¬ y = 61 → x = 33 → t_si x y = 0 := fun h1 h2 => by unfold t_si; rw [if_neg (fun h => h1 h.1), h2]; rfl
  have f6 : ¬ y = 61 → x = 60 → t_si x y = x := fun h1 h2 => by unfold t_si; rw [if_neg (fun h => h1 h.1), h2]; rfl
  have f7 : (x = 59 ∨ x = 43 ∨ x = 45 ∨ x = 42 ∨ x = 47 ∨ x = 40 ∨ x = 41) → t_si x y = x := fun h => by
    unfold t_si
    rw [if_neg (by omega)]
    rcases h with h | h | h | h | h | h | h <;> (rw [h]; rfl)
  have f8 : ¬ x = 61 → ¬ x = 33 → ¬ x = 60 → ¬ x = 59 → ¬ x = 43 → ¬ x = 45 → ¬ x = 42 → ¬ x = 47 → ¬ x = 40 → ¬ x = 41 → t_si x y = 0 := fun h1 h2 h3 h4 h5 h6 h7 h8 h9 h10 => by
    have e : t_sg x = 1 := by unfold t_sg; repeat' split; all_goals omega
    unfold t_si
    rw [if_neg (by omega), e]
    rfl
  refine b172_13 ?_
  try simp only [w_Ug, reduceIte, Nat.reduceEqDiff, Int.reduceEq, eq_self, if_true]
  repeat' (first | apply And.intro | intro)
  all_goals (try first | omega | contradiction | exact Or.inl trivial | exact Or.inr trivial)
  all_goals first
    | exact kk _ (f1 ‹_› ‹_›)
    | exact kk _ (f2 ‹_› ‹_›)
    | exact kk _ (f3 ‹_› ‹_›)
    | exact kk _ (f4 ‹_› ‹_›)
    | exact kk _ (f5 ‹_› ‹_›)
    | exact kk _ (f6 ‹_› ‹_›)
    | exact kk _ (f7 (by omega))
    | exact kk _ (f8 ‹_› ‹_› ‹_› ‹_› ‹_› ‹_› ‹_› ‹_› ‹_› ‹_›)
theorem t_nm_u : ∀ (m : Nat) (p : Int), t_let G p m → t_nm G m p 0 < ((27 ^ m : Nat) : Int)
  | 0, p, _ => by
    show (0 : Int) < ((1 : Nat) : Int)
    omega
  | m + 1, p, h => by
    have ih := t_nm_u m p (fun i x y => h i x (by omega))
    have h1 := h m (by omega) (by omega)
    rw [t_nm_r, Nat.pow_succ]
    generalize 27 ^ m = X at ih
    omega
theorem t_nm_in {m : Nat} {p : Int} (hm : m ≤ 8) (h : t_let G p m) : w_inl (t_nm G m p 0) := by
  have h0 := t_nm_0 m p h
  have h1 := t_nm_u m p h
  have h2 : 27 ^ m ≤ 27 ^ 8 := Nat.pow_le_pow_right (by decide) hm
  have h3 : 27 ^ 8 = 282429536481 := by decide
  rw [h3] at h2
  generalize 27 ^ m = X at h1 h2
  omega
theorem t_dg_r {G : Int → Int} : ∀ (m : Nat) (p v : Int), t_dg G (m + 1) p v = 10 * t_dg G m p v + G (p + m) - 48
  | 0, p, v => by
    show 10 * v + G p - 48 = 10 * v + G (p + (0 : Nat)) - 48
    rw [show p + ((0 : Nat) : Int) = p by omega]
  | m + 1, p, v => by
    have ih := t_dg_r (G := G) m (p + 1) (10 * v + G p - 48)
    rw [show p + 1 + (m : Int) = p + ((m + 1 : Nat) : Int) by omega] at ih
    exact ih
theorem zW_b {k : Int} (h : 4 ≤ k ∧ k ≤ 46) : (-4 ≤ zW k ∧ (20 ≤ k → 0 ≤ zW k)) ∧ zW k ≤ 302 ∧ (k ≤ 15 → k ≠ 10 → k ≠ 11 → k ≠ 13 → 40 ≤ zW k ∧ zW k ≤ 61) ∧ (k = 10 ∨ k = 11 ∨ k = 13 → 300 ≤ zW k) := by
  unfold zW
  repeat' split
  all_goals omega
theorem s173 (hb : zH I G n) {t p : Int} (h2 : I 104 2 = t) (ht : 0 ≤ t ∧ t < 2001) (hp : 0 ≤ p ∧ p < n)
    (k : ∀ (w : Int) (J' : w_I), (t_kd G n p = 3 → w = t_vl G n p) → (4 ≤ t_kd G n p → w = zW (t_kd G n p)) → (∀ a, a ≠ 109 → J' a = J a) → (∀ j, j ≠ t → J' 109 j = J 109 j) → (t_kd G n p = 2 → J' 109 t = t_nm G (t_vl G n p).toNat p 0) → Q (some (w_i (p + t_ln G n p))) (w_U (w_U (w_U (w_U I 106 t (zS (t_kd G n p))) 107 t p) 108 t w) 104 2 (t + 1)) J' b) : w_C xs xl 173 [.ref 104, w_i p] I J b Q := by
  have hn := hb.2.1
  have c0 : ¬ n ≤ p := by omega
  refine e173 (b173_0 ?_)
  unfold t_kd t_vl t_ln at k
  simp only [if_neg c0] at k
  refine s168 hb (by omega) (fun c1 => ?_) (fun c1 => ?_)
  · have hw := t_wl_b (n := n) hp.2 c1
    simp only [t_lt, if_pos c1] at k
    have kwb := t_kw_b (G := G) (n := n) p
    refine b173_7 ?_
    try simp only [w_Ug, reduceIte, Nat.reduceEqDiff, Int.reduceEq, eq_self, h2]
    repeat' (first | apply And.intro | intro)
    all_goals (try first | omega | contradiction | exact Or.inl trivial | exact Or.inr trivial)
    have loop : ∀ (m : Nat) (l2 j3 : Int) (u4 u5 : Option Value) (m0 m1 m2 m4 m5 : Option Int64), l2 + m = n → p ≤ l2 → t_rn G 97 122 m l2 - p = t_wl G n p → t_let G p (l2 - p).toNat → (l2 - p ≤ 8 → j3 = t_nm G (l2 - p).toNat p 0) → w_inl j3 →
        w_T xs xl 173 12 [some (.ref 104), some (w_i p), some (w_i l2), none, u4, u5] [m0, m1, m2, some (Int64.ofInt j3), m4, m5] [] I J b Q := by
      intro m
      have fin : ∀ (l2 j3 : Int) (u4 u5 : Option Value) (m0 m1 m2 m4 m5 : Option Int64), l2 - p = t_wl G n p → (l2 - p ≤ 8 → j3 = t_nm G (l2 - p).toNat p 0) → w_inl j3 → 
          w_T xs xl 173 17 [some (.ref 104), some (w_i p), some (w_i l2), none, u4, u5] [m0, m1, m2, some (Int64.ofInt j3), m4, m5] [w_i 0] I J b Q := by
        intro l2 j3 u4 u5 m0 m1 m2 m4 m5 a2 a4 a5
        have done : ∀ (so w : Int) (u : Option Value), so = zS (t_kw G n p) → (4 ≤ t_kw G n p → w = zW (t_kw G n p)) → (t_kw G n p = 2 → j3 = t_nm G (t_wl G n p).toNat p 0) → w_C xs xl 170 [.ref 104, w_i so, w_i p, w_i w] I (w_U J 109 t j3) b (fun v Ic Jc bc => w_T xs xl 173 108 [some (.ref 104), some (w_i p), some (w_i l2), none, u4, u] [m0, m1, m2, some (Int64.ofInt j3), none, none] (w_pv v []) Ic Jc bc Q) := by
          intro so w u d1 d2 d3
          have kk := k w (w_U J 109 t j3) (fun h => by omega) d2 (fun a h => w_Ua h) (fun j h => by rw [w_Ug, if_pos rfl, if_neg h]) (fun h => by rw [w_Ug, if_pos rfl, if_pos rfl]; exact d3 h)
          rw [← d1, show p + t_wl G n p = l2 by omega] at kk
          refine e170 ?_
          refine b170_0 ?_
          try simp only [w_Ug, reduceIte, Nat.reduceEqDiff, Int.reduceEq, eq_self, h2]
          repeat' (first | apply And.intro | intro)
          all_goals (try first | omega | contradiction | exact Or.inl trivial | exact Or.inr trivial)
          exact b173_108 kk
        by_cases c8 : l2 - p ≤ 8
        · have a4 := a4 c8
          rw [a2] at a4
          have ek : t_kw G n p = t_wd j3 := by
            unfold t_kw
            rw [if_neg (by omega), a4]
          have wb := t_wd_b j3
          have zb := fun h => zW_b (k := t_wd j3) h
          have done2 := fun so u d1 d2 => done so (zV (t_wd j3)) u d1 d2 (fun _ => a4)
          rw [ek] at done2
          refine b173_17 ?_
          try simp only [w_Ug, reduceIte, Nat.reduceEqDiff, Int.reduceEq, eq_self, h2]
          repeat' (first | apply And.intro | intro)
          all_goals (try first | omega | contradiction | exact Or.inl trivial | exact Or.inr trivial)
          refine s171 a5 ?_
          by_cases c2 : t_wd j3 = 2
          · have d := fun u => done2 0 u (by rw [c2]; rfl) (fun h => by omega)
            have e : zV (t_wd j3) = -1 := by rw [c2]; rfl
            rw [e] at d ⊢
            refine b173_67 ?_
            try simp only [w_Ug, reduceIte, Nat.reduceEqDiff, Int.reduceEq, eq_self, h2]
            repeat' (first | apply And.intro | intro)
            all_goals (try first | omega | contradiction | exact Or.inl trivial | exact Or.inr trivial)
            exact d _
          · have e : zV (t_wd j3) = zW (t_wd j3) := by unfold zV; rw [if_neg c2]
            have d := fun u => done2 3 u (by unfold zS; rw [if_neg (by omega), if_neg (by omega), if_neg (by omega), if_neg (by omega), if_neg (by omega)]) (fun h => e)
            have zb := zb (by omega)
            have zb0 := zb.1.2 (by omega)
            rw [e] at d ⊢
            refine b173_67 ?_
            try simp only [w_Ug, reduceIte, Nat.reduceEqDiff, Int.reduceEq, eq_self, h2]
            repeat' (first | apply And.intro | intro)
            all_goals (try first | omega | contradiction | exact Or.inl trivial | exact Or.inr trivial)
            exact d _
        · have ek : t_kw G n p = 1 := by
            unfold t_kw
            rw [if_pos (by omega)]
          have d := fun u => done 5 (-1) u (by rw [ek]; rfl) (fun h => by omega) (fun h => by omega)
          refine b173_17 ?_
          try simp only [w_Ug, reduceIte, Nat.reduceEqDiff, Int.reduceEq, eq_self, h2]
          repeat' (first | apply And.intro | intro)
          all_goals (try first | omega | contradiction | exact Or.inl trivial | exact Or.inr trivial)
          exact d _
      induction m with
      | zero =>
        intro l2 j3 u4 u5 m0 m1 m2 m4 m5 a0 a1 a2 a3 a4 a5
        have a2 : l2 - p = t_wl G n p := a2
        have z := hb.2.2.2.1 l2 (by omega)
        exact b173_12 (s168 hb (by omega) (fun x => by omega) (fun _ => fin l2 j3 _ _ _ _ _ _ _ a2 a4 a5))
      | succ m ih =>
        intro l2 j3 u4 u5 m0 m1 m2 m4 m5 a0 a1 a2 a3 a4 a5
        have a2 : (if 97 ≤ G l2 ∧ G l2 ≤ 122 then t_rn G 97 122 m (l2 + 1) else l2) - p = t_wl G n p := a2
        have g := hb.2.2.2.2 l2 (by omega)
        refine b173_12 (s168 hb (by omega) (fun c => ?_) (fun c => ?_))
        · rw [if_pos c] at a2
          have a3' : t_let G p (l2 + 1 - p).toNat := fun i x y => by
            by_cases e : i = l2 - p
            · rw [e, show p + (l2 - p) = l2 by omega]
              exact c
            · exact a3 i x (by omega)
          refine b173_17 ?_
          try simp only [w_Ug, reduceIte, Nat.reduceEqDiff, Int.reduceEq, eq_self, h2]
          repeat' (first | apply And.intro | intro)
          all_goals (try first | omega | contradiction | exact Or.inl trivial | exact Or.inr trivial)
          · exact ih (l2 + 1) j3 _ _ _ _ _ _ _ (by omega) (by omega) a2 a3' (fun h => by omega) a5
          · refine s167 hb (by omega) ?_
            have e : j3 * 27 + G l2 - 96 = t_nm G (l2 + 1 - p).toNat p 0 := by
              rw [show (l2 + 1 - p).toNat = (l2 - p).toNat + 1 by omega, t_nm_r, show p + (((l2 - p).toNat : Nat) : Int) = l2 by omega, a4 (by omega)]
            have hin := t_nm_in (m := (l2 + 1 - p).toNat) (p := p) (by omega) a3'
            rw [← e] at hin
            refine b173_38 ?_
            try simp only [w_Ug, reduceIte, Nat.reduceEqDiff, Int.reduceEq, eq_self, h2]
            repeat' (first | apply And.intro | intro)
            all_goals (try first | omega | contradiction | exact Or.inl trivial | exact Or.inr trivial)
            exact ih (l2 + 1) (j3 * 27 + G l2 - 96) _ _ _ _ _ _ _ (by omega) (by omega) a2 a3' (fun h => e) hin
        · rw [if_neg c] at a2
          exact fin l2 j3 _ _ _ _ _ _ _ a2 a4 a5
    refine loop (n - p).toNat p 0 _ _ _ _ _ _ _ (by omega) (by omega) rfl (fun i x y => by omega) (fun _ => ?_) (by decide)
    rw [show (p - p).toNat = 0 by omega]
    rfl
  · simp only [t_lt, if_neg c1] at k
    refine b173_7 ?_
    try simp only [w_Ug, reduceIte, Nat.reduceEqDiff, Int.reduceEq, eq_self, h2]
    repeat' (first | apply And.intro | intro)
    all_goals (try first | omega | contradiction | exact Or.inl trivial | exact Or.inr trivial)
    refine s169 hb (by omega) (fun c2 => ?_) (fun c2 => ?_)
    · have hw := t_dl_b (n := n) hp.2 c2
      simp only [t_dt, if_pos c2] at k
      refine b173_115 ?_
      try simp only [w_Ug, reduceIte, Nat.reduceEqDiff, Int.reduceEq, eq_self, h2]
      repeat' (first | apply And.intro | intro)
      all_goals (try first | omega | contradiction | exact Or.inl trivial | exact Or.inr trivial)
      have loop : ∀ (m : Nat) (l2 l3 : Int) (u4 u5 : Option Value) (m0 m1 m2 m3 m4 m5 : Option Int64), l2 + m = n → p ≤ l2 → t_rn G 48 57 m l2 - p = t_dl G n p → (l2 - p ≤ 4 → l3 = t_dg G (l2 - p).toNat p 0) →
          w_T xs xl 173 120 [some (.ref 104), some (w_i p), some (w_i l2), some (w_i l3), u4, u5] [m0, m1, m2, m3, m4, m5] [] I J b Q := by
        intro m
        have fin : ∀ (l2 l3 : Int) (u4 u5 : Option Value) (m0 m1 m2 m3 m4 m5 : Option Int64), l2 - p = t_dl G n p → (l2 - p ≤ 4 → l3 = t_dg G (l2 - p).toNat p 0) →
            w_T xs xl 173 125 [some (.ref 104), some (w_i p), some (w_i l2), some (w_i l3), u4, u5] [m0, m1, m2, m3, m4, m5] [w_i 0] I J b Q := by
          intro l2 l3 u4 u5 m0 m1 m2 m3 m4 m5 a2 a4
          unfold t_vd at k
          rw [← a2] at k
          have done : ∀ (so : Int), so = zS (if 4 < l2 - p then 1 else 3) → w_C xs xl 170 [.ref 104, w_i so, w_i p, w_i l3] I J b (fun v Ic Jc bc => w_T xs xl 173 173 [some (.ref 104), some (w_i p), some (w_i l2), some (w_i l3), u4, u5] [m0, m1, m2, m3, m4, m5] (w_pv v []) Ic Jc bc Q) := by
            intro so d1
            have kk := k l3 J (fun h => ?_) (fun h => ?_) (fun a h => rfl) (fun j h => rfl) (fun h => ?_)
            · rw [← d1, show p + (l2 - p) = l2 by omega] at kk
              refine e170 ?_
              refine b170_0 ?_
              try simp only [w_Ug, reduceIte, Nat.reduceEqDiff, Int.reduceEq, eq_self, h2]
              repeat' (first | apply And.intro | intro)
              all_goals (try first | omega | contradiction | exact Or.inl trivial | exact Or.inr trivial)
              exact b173_173 kk
            · by_cases c : 4 < l2 - p
              · rw [if_pos c] at h
                omega
              · rw [if_neg c]
                exact a4 (by omega)
            · by_cases c : 4 < l2 - p
              · rw [if_pos c] at h
                omega
              · rw [if_neg c] at h
                omega
            · by_cases c : 4 < l2 - p
              · rw [if_pos c] at h
                omega
              · rw [if_neg c] at h
                omega
          by_cases c : 4 < l2 - p
          · have d := done 5 (by rw [if_pos c]; rfl)
            refine b173_125 ?_
            try simp only [w_Ug, reduceIte, Nat.reduceEqDiff, Int.reduceEq, eq_self, h2]
            repeat' (first | apply And.intro | intro)
            all_goals (try first | omega | contradiction | exact Or.inl trivial | exact Or.inr trivial)
          · have d := done 1 (by rw [if_neg c]; rfl)
            refine b173_125 ?_
            try simp only [w_Ug, reduceIte, Nat.reduceEqDiff, Int.reduceEq, eq_self, h2]
            repeat' (first | apply And.intro | intro)
            all_goals (try first | omega | contradiction | exact Or.inl trivial | exact Or.inr trivial)
        induction m with
        | zero =>
          intro l2 l3 u4 u5 m0 m1 m2 m3 m4 m5 a0 a1 a2 a4
          have a2 : l2 - p = t_dl G n p := a2
          have z := hb.2.2.2.1 l2 (by omega)
          exact b173_120 (s169 hb (by omega) (fun x => by omega) (fun _ => fin l2 l3 _ _ _ _ _ _ _ _ a2 a4))
        | succ m ih =>
          intro l2 l3 u4 u5 m0 m1 m2 m3 m4 m5 a0 a1 a2 a4
          have a2 : (if 48 ≤ G l2 ∧ G l2 ≤ 57 then t_rn G 48 57 m (l2 + 1) else l2) - p = t_dl G n p := a2
          refine b173_120 (s169 hb (by omega) (fun c => ?_) (fun c => ?_))
          · rw [if_pos c] at a2
            refine b173_125 ?_
            try simp only [w_Ug, reduceIte, Nat.reduceEqDiff, Int.reduceEq, eq_self, h2]
            repeat' (first | apply And.intro | intro)
            all_goals (try first | omega | contradiction | exact Or.inl trivial | exact Or.inr trivial)
            · exact ih (l2 + 1) l3 _ _ _ _ _ _ _ _ (by omega) (by omega) a2 (fun h => by omega)
            · refine s167 hb (by omega) (b173_144 ?_)
              refine ih (l2 + 1) (10 * l3 + G l2 - 48) _ _ _ _ _ _ _ _ (by omega) (by omega) a2 (fun h => ?_)
              rw [show (l2 + 1 - p).toNat = (l2 - p).toNat + 1 by omega, t_dg_r, show p + (((l2 - p).toNat : Nat) : Int) = l2 by omega, a4 (by omega)]
          · rw [if_neg c] at a2
            exact fin l2 l3 _ _ _ _ _ _ _ _ a2 a4
      refine loop (n - p).toNat p 0 _ _ _ _ _ _ _ _ (by omega) (by omega) rfl (fun _ => ?_)
      rw [show (p - p).toNat = 0 by omega]
      rfl
    · simp only [t_dt, if_neg c2] at k
      refine b173_115 ?_
      try simp only [w_Ug, reduceIte, Nat.reduceEqDiff, Int.reduceEq, eq_self, h2]
      repeat' (first | apply And.intro | intro)
      all_goals (try first | omega | contradiction | exact Or.inl trivial | exact Or.inr trivial)
      refine s172 hb (by omega) ?_
      have sgb := t_sg_b (G p)
      have dbb := t_db_b (G p)
      have done : ∀ (so w len : Int), so = zS (if t_tw G p then t_db (G p) else t_sg (G p)) → (4 ≤ (if t_tw G p then t_db (G p) else t_sg (G p)) → w = zW (if t_tw G p then t_db (G p) else t_sg (G p))) → (if t_tw G p then 2 else 1) = len → (w < 300 → len = 1) → (¬ w < 300 → len = 2) → w_in w → w_C xs xl 170 [.ref 104, w_i so, w_i p, w_i w] I J b (fun v Ic Jc bc => w_T xs xl 173 196 [some (.ref 104), some (w_i p), some (w_i p), some (w_i w), none, none] [none, none, none, none, none, none] (w_pv v []) Ic Jc bc Q) := by
        intro so w len d1 d2 d3 d4 d5 d6
        have k3 : ∀ z : Int, (if t_tw G p then t_db (G p) else t_sg (G p)) = z → z ≠ 3 ∧ z ≠ 2 := by
          intro z e
          split at e <;> omega
        have kk := k w J (fun h => absurd rfl ((k3 _ h).1)) d2 (fun a h => rfl) (fun j h => rfl) (fun h => absurd rfl ((k3 _ h).2))
        rw [← d1, d3] at kk
        refine e170 ?_
        refine b170_0 ?_
        try simp only [w_Ug, reduceIte, Nat.reduceEqDiff, Int.reduceEq, eq_self, h2]
        repeat' (first | apply And.intro | intro)
        all_goals (try first | omega | contradiction | exact Or.inl trivial | exact Or.inr trivial)
        by_cases c : w < 300
        · rw [d4 c] at kk
          refine b173_196 ?_
          try simp only [w_Ug, reduceIte, Nat.reduceEqDiff, Int.reduceEq, eq_self, if_true]
          repeat' (first | apply And.intro | intro)
          all_goals (try first | omega | contradiction | exact Or.inl trivial | exact Or.inr trivial)
        · rw [d5 c] at kk
          refine b173_196 ?_
          try simp only [w_Ug, reduceIte, Nat.reduceEqDiff, Int.reduceEq, eq_self, if_true]
          repeat' (first | apply And.intro | intro)
          all_goals (try first | omega | contradiction | exact Or.inl trivial | exact Or.inr trivial)
      unfold t_si
      by_cases c3 : G (p + 1) = 61 ∧ (G p = 61 ∨ G p = 33 ∨ G p = 60)
      · have zb := zW_b (k := t_db (G p)) (by omega)
        rw [if_pos c3]
        have d := done 2 (zW (t_db (G p))) 2 (by rw [if_pos c3]; unfold zS; rw [if_neg (by omega), if_neg (by omega), if_neg (by omega), if_neg (by omega), if_pos (by omega)]) (fun _ => by rw [if_pos c3]) (if_pos c3) (by omega) (by omega) (by omega)
        have := zb.2.2.2 (by omega)
        refine b173_180 ?_
        try simp only [w_Ug, reduceIte, Nat.reduceEqDiff, Int.reduceEq, eq_self, if_true]
        repeat' (first | apply And.intro | intro)
        all_goals (try first | omega | contradiction | exact Or.inl trivial | exact Or.inr trivial)
      · rw [if_neg c3]
        by_cases c4 : t_sg (G p) = 1
        · rw [if_pos c4]
          have d := done 5 0 1 (by rw [if_neg c3, c4]; rfl) (fun h => by rw [if_neg c3] at h; omega) (if_neg c3) (by omega) (by omega) (by omega)
          refine b173_180 ?_
          try simp only [w_Ug, reduceIte, Nat.reduceEqDiff, Int.reduceEq, eq_self, if_true]
          repeat' (first | apply And.intro | intro)
          all_goals (try first | omega | contradiction | exact Or.inl trivial | exact Or.inr trivial)
        · rw [if_neg c4]
          have zb := zW_b (k := t_sg (G p)) (by omega)
          have zb2 := zb.2.2.1 (by omega) (by omega) (by omega) (by omega)
          have d := done 2 (zW (t_sg (G p))) 1 (by rw [if_neg c3]; unfold zS; rw [if_neg (by omega), if_neg (by omega), if_neg (by omega), if_neg (by omega), if_pos (by omega)]) (fun _ => by rw [if_neg c3]) (if_neg c3) (by omega) (by omega) (by omega)
          refine b173_180 ?_
          try simp only [w_Ug, reduceIte, Nat.reduceEqDiff, Int.reduceEq, eq_self, if_true]
          repeat' (first | apply And.intro | intro)
          all_goals (try first | omega | contradiction | exact Or.inl trivial | exact Or.inr trivial)
/-- the reference's tokens -/
def zU (I J : w_I) (K V P M : Int → Int) (N : Int) : Prop := ∀ i, 0 ≤ i → i ≤ N → I 106 i = zS (K i) ∧ I 107 i = P i ∧ (K i = 3 → I 108 i = V i) ∧ (4 ≤ K i → I 108 i = zW (K i)) ∧ (K i = 2 → J 109 i = M i)
def pSc (a : Nat) (k : Int) : Bool := a == 106 || a == 107 || a == 108 || (a == 104 && k == 2)
theorem s174 (hb : zH I G n) (k : ∀ (N : Int) (I' J' : w_I), 0 ≤ N → (∀ i, 0 ≤ i → i < N → 2 ≤ t_K G n i) → t_K G n N ≤ 1 → w_fr pSc I I' → (∀ a, a ≠ 109 → J' a = J a) → zU I' J' (t_K G n) (t_V G n) (t_P G n) (t_N G n) N → Q none I' J' b) : w_C xs xl 174 [.ref 104] I J b Q := by
  have hn := hb.2.1
  have hz := hb.2.2.2.1
  refine e174 (b174_0 ?_)
  have loop : ∀ (m : Nat) (t : Nat) (p : Int) (u3 : Option Value) (I1 J1 : w_I), n - p ≤ m → 0 ≤ p → p ≤ n → (t : Int) ≤ p → t_sk G (n - p).toNat p = t_p G n t → w_fr pSc I I1 → (∀ a, a ≠ 109 → J1 a = J a) → I1 104 2 = t →
      (∀ i, 0 ≤ i → i < (t : Int) → I1 106 i = zS (t_K G n i) ∧ I1 107 i = t_P G n i ∧ (t_K G n i = 3 → I1 108 i = t_V G n i) ∧ (4 ≤ t_K G n i → I1 108 i = zW (t_K G n i)) ∧ (t_K G n i = 2 → J1 109 i = t_N G n i)) → (∀ i, 0 ≤ i → i < (t : Int) → 2 ≤ t_K G n i) →
      w_T xs xl 174 9 [some (.ref 104), some (w_i p), some (w_i 1), u3] [] [] I1 J1 b Q := by
    intro m
    induction m with
    | zero =>
      intro t p u3 I1 J1 a0 a1 a2 a3 a4 a5 a6 a7 a8 a9
      have i0 : I1 104 0 = n := (a5 104 0 rfl).trans hb.1
      have ep : t_p G n t = n := by
        rw [← a4, show (n - p).toNat = 0 by omega]
        show p = n
        omega
      have ek : t_K G n t = 0 := by
        have := (t_kd_b (G := G) (n := n) (t_p G n t)).2.2.1.mp (by omega)
        exact this
      have st : ∀ i, 0 ≤ i → i ≤ (t : Int) → (w_U (w_U (w_U (w_U I1 106 t 4) 107 t n) 108 t 0) 104 2 (t + 1)) 106 i = zS (t_K G n i) ∧ (w_U (w_U (w_U (w_U I1 106 t 4) 107 t n) 108 t 0) 104 2 (t + 1)) 107 i = t_P G n i ∧ (t_K G n i = 3 → (w_U (w_U (w_U (w_U I1 106 t 4) 107 t n) 108 t 0) 104 2 (t + 1)) 108 i = t_V G n i) ∧ (4 ≤ t_K G n i → (w_U (w_U (w_U (w_U I1 106 t 4) 107 t n) 108 t 0) 104 2 (t + 1)) 108 i = zW (t_K G n i)) ∧ (t_K G n i = 2 → J1 109 i = t_N G n i) := by
        intro i x y
        simp only [w_Ug, reduceIte, Nat.reduceEqDiff]
        by_cases e : i = t
        · subst e
          simp only [if_true]
          refine ⟨by rw [ek]; rfl, ep.symm, fun h => by omega, fun h => by omega, fun h => by omega⟩
        · simp only [if_neg e]
          exact a8 i x (by omega)
      have kk := k t _ J1 (by omega) a9 (by omega) (w_frU (w_frU (w_frU (w_frU a5 rfl) rfl) rfl) rfl) a6 st
      refine b174_9 ?_
      try simp only [w_Ug, reduceIte, Nat.reduceEqDiff, Int.reduceEq, eq_self, i0]
      repeat' (first | apply And.intro | intro)
      all_goals (try first | omega | contradiction | exact Or.inl trivial | exact Or.inr trivial)
      refine e170 ?_
      refine b170_0 ?_
      try simp only [w_Ug, reduceIte, Nat.reduceEqDiff, Int.reduceEq, eq_self, a7]
      repeat' (first | apply And.intro | intro)
      all_goals (try first | omega | contradiction | exact Or.inl trivial | exact Or.inr trivial)
      exact b174_101 kk
    | succ m ih =>
      intro t p u3 I1 J1 a0 a1 a2 a3 a4 a5 a6 a7 a8 a9
      have i0 : I1 104 0 = n := (a5 104 0 rfl).trans hb.1
      have hb1 : zH I1 G n := zH_f hb (a5 104 0 rfl) (w_frA a5 (fun _ => rfl))
      by_cases cn : n ≤ p
      · exact ih t p u3 I1 J1 (by omega) a1 a2 a3 a4 a5 a6 a7 a8 a9
      · have g := hb.2.2.2.2 p a1
        have a4' : (if (G p = 32 ∨ G p = 9 ∨ G p = 10 ∨ G p = 13) then t_sk G (n - (p + 1)).toNat (p + 1) else p) = t_p G n t := by
          rw [show (n - p).toNat = (n - (p + 1)).toNat + 1 by omega] at a4
          exact a4
        refine b174_9 ?_
        try simp only [w_Ug, reduceIte, Nat.reduceEqDiff, Int.reduceEq, eq_self, i0]
        repeat' (first | apply And.intro | intro)
        all_goals (try first | omega | contradiction | exact Or.inl trivial | exact Or.inr trivial)
        refine s167 hb1 (by omega) ?_
        by_cases c : (G p = 32 ∨ G p = 9 ∨ G p = 10 ∨ G p = 13)
        · rw [if_pos c] at a4'
          have nx := fun u => ih t (p + 1) u I1 J1 (by omega) (by omega) (by omega) (by omega) a4' a5 a6 a7 a8 a9
          refine b174_26 ?_
          try simp only [w_Ug, reduceIte, Nat.reduceEqDiff, Int.reduceEq, eq_self, if_true]
          repeat' (first | apply And.intro | intro)
          all_goals (try first | omega | contradiction | exact Or.inl trivial | exact Or.inr trivial)
          all_goals exact nx _
        · rw [if_neg c] at a4'
          have pk : t_P G n t = p := by
            show t_p G n ((t : Int)).toNat = p
            rw [Int.toNat_natCast]
            exact a4'.symm
          have ek : t_kd G n p = t_K G n t := by
            show _ = t_kd G n (t_p G n ((t : Int)).toNat)
            rw [Int.toNat_natCast, ← a4']
          have ev : t_vl G n p = t_V G n t := by
            show _ = t_vl G n (t_p G n ((t : Int)).toNat)
            rw [Int.toNat_natCast, ← a4']
          have kb := t_kd_b (G := G) (n := n) p
          have lb := t_ln_b hz a2
          have eq : p + t_ln G n p = t_q G n (t + 1) := by rw [t_q_s, ← a4']
          refine b174_26 ?_
          try simp only [w_Ug, reduceIte, Nat.reduceEqDiff, Int.reduceEq, eq_self, if_true]
          repeat' (first | apply And.intro | intro)
          all_goals (try first | omega | contradiction | exact Or.inl trivial | exact Or.inr trivial)
          refine s173 hb1 a7 (by omega) ⟨a1, by omega⟩ (fun w J2 f1 f2 f3 f4 f5 => ?_)
          rw [ek] at f1 f2 f5 kb ⊢
          rw [ev] at f1 f5
          have fr : w_fr pSc I (w_U (w_U (w_U (w_U I1 106 t (zS (t_K G n t))) 107 t p) 108 t w) 104 2 (t + 1)) := w_frU (w_frU (w_frU (w_frU a5 rfl) rfl) rfl) rfl
          have fj : ∀ a, a ≠ 109 → J2 a = J a := fun a h => (f3 a h).trans (a6 a h)
          have e106 : (w_U (w_U (w_U (w_U I1 106 t (zS (t_K G n t))) 107 t p) 108 t w) 104 2 (t + 1)) 106 t = zS (t_K G n t) := by
            simp only [w_Ug, reduceIte, Nat.reduceEqDiff, if_true]
          have e2 : (w_U (w_U (w_U (w_U I1 106 t (zS (t_K G n t))) 107 t p) 108 t w) 104 2 (t + 1)) 104 2 = ((t + 1 : Nat) : Int) := by
            simp only [w_Ug, reduceIte, Nat.reduceEqDiff]
            omega
          have st : ∀ i, 0 ≤ i → i < ((t + 1 : Nat) : Int) → (w_U (w_U (w_U (w_U I1 106 t (zS (t_K G n t))) 107 t p) 108 t w) 104 2 (t + 1)) 106 i = zS (t_K G n i) ∧ (w_U (w_U (w_U (w_U I1 106 t (zS (t_K G n t))) 107 t p) 108 t w) 104 2 (t + 1)) 107 i = t_P G n i ∧ (t_K G n i = 3 → (w_U (w_U (w_U (w_U I1 106 t (zS (t_K G n t))) 107 t p) 108 t w) 104 2 (t + 1)) 108 i = t_V G n i) ∧ (4 ≤ t_K G n i → (w_U (w_U (w_U (w_U I1 106 t (zS (t_K G n t))) 107 t p) 108 t w) 104 2 (t + 1)) 108 i = zW (t_K G n i)) ∧ (t_K G n i = 2 → J2 109 i = t_N G n i) := by
            intro i x y
            simp only [w_Ug, reduceIte, Nat.reduceEqDiff]
            by_cases e : i = t
            · subst e
              simp only [if_true]
              refine ⟨trivial, pk.symm, f1, f2, fun h => ?_⟩
              rw [f5 h]
              show _ = t_nm G (t_V G n t).toNat (t_P G n t) 0
              rw [pk]
            · simp only [if_neg e]
              obtain ⟨q1, q2, q3, q4, q5⟩ := a8 i x (by omega)
              exact ⟨q1, q2, q3, q4, fun h => by rw [f4 i e]; exact q5 h⟩
          generalize hI2 : (w_U (w_U (w_U (w_U I1 106 t (zS (t_K G n t))) 107 t p) 108 t w) 104 2 (t + 1)) = I2 at fr e106 e2 st
          have e2' : I2 104 2 - 1 = t := by omega
          have i02 : I2 104 0 = n := (fr 104 0 rfl).trans hb.1
          have zs5 : zS (t_K G n t) = 5 ↔ t_K G n t = 1 := by
            unfold zS
            repeat' split
            all_goals omega
          have zsb : 0 ≤ zS (t_K G n t) ∧ zS (t_K G n t) ≤ 5 := by
            unfold zS
            repeat' split
            all_goals omega
          by_cases c1 : t_K G n t = 1
          · have kk := k t I2 J2 (by omega) a9 (by omega) fr fj (fun i x y => st i x (by omega))
            have i0' := i02
            refine b174_62 ?_
            try simp only [w_Ug, reduceIte, Nat.reduceEqDiff, Int.reduceEq, eq_self, e2', e106]
            repeat' (first | apply And.intro | intro)
            all_goals (try first | omega | contradiction | exact Or.inl trivial | exact Or.inr trivial)
            refine b174_9 ?_
            try simp only [w_Ug, reduceIte, Nat.reduceEqDiff, Int.reduceEq, eq_self, i02]
            repeat' (first | apply And.intro | intro)
            all_goals (try first | omega | contradiction | exact Or.inl trivial | exact Or.inr trivial)
          · have ep2 : t_sk G (n - (p + t_ln G n p)).toNat (p + t_ln G n p) = t_p G n (t + 1) := by
              rw [eq]
              rfl
            have nx := fun u => ih (t + 1) (p + t_ln G n p) u I2 J2 (by omega) (by omega) (by omega) (by omega) ep2 fr fj e2 st (fun i x y => by
              by_cases e : i = t
              · subst e
                omega
              · exact a9 i x (by omega))
            refine b174_62 ?_
            try simp only [w_Ug, reduceIte, Nat.reduceEqDiff, Int.reduceEq, eq_self, e2', e106]
            repeat' (first | apply And.intro | intro)
            all_goals (try first | omega | contradiction | exact Or.inl trivial | exact Or.inr trivial)
            exact nx _
  refine loop n.toNat 0 0 _ _ _ (by omega) (by omega) (by omega) (by omega) ?_ (w_frU w_frr rfl) (fun _ _ => rfl) ?_ (fun i x y => by omega) (fun i x y => by omega)
  · rw [Int.sub_zero]
    show _ = t_sk G (n - 0).toNat 0
    rw [Int.sub_zero]
  · simp only [w_Ug, reduceIte]
    rfl
end
