section
/-! reading, the class: tokens -/
variable {xs : Nat → Int32} {xl : Nat} {I J : w_I} {b : Bool} {Q : Option Value → w_I → w_I → Bool → Prop}
variable {G : Int → Int} {n : Int}
theorem u1_u {f : Int → Int} {k v w : Int} : u1 (u1 f k v) k w = u1 f k w := by
  funext j
  simp only [u1g]
  split <;> rfl
theorem u1_s {f : Int → Int} {k v : Int} (h : f k = v) : u1 f k v = f := by
  funext j
  rw [u1g]
  split
  · rename_i e
    rw [e, h]
  · rfl
def zG (I : w_I) (G : Int → Int) (n : Int) : Prop := I 8 8 = n ∧ (0 ≤ n ∧ n ≤ 2000) ∧ (∀ k, 0 ≤ k → k < n → I 1 k % 256 = G k) ∧ ∀ k, n ≤ k → G k = 0
theorem zG_b (hb : zG I G n) {k : Int} (h : 0 ≤ k) : 0 ≤ G k ∧ G k < 256 := by
  by_cases c : k < n
  · have := hb.2.2.1 k h c
    omega
  · have := hb.2.2.2 k (by omega)
    omega
theorem zG_f {I' : w_I} (hb : zG I G n) (h8 : I' 8 8 = I 8 8) (h1 : I' 1 = I 1) : zG I' G n := by
  obtain ⟨a, c, d, e⟩ := hb
  refine ⟨h8.trans a, c, ?_, e⟩
  rw [h1]
  exact d
theorem c66 (hb : zG I G n) {a : Int} (ha : 0 ≤ a ∧ a ≤ 2001) (k : Q (some (w_i (G a))) I J b) : w_C xs xl 66 [.ref 8, w_i a] I J b Q := by
  obtain ⟨h1, h2, h3, h4⟩ := hb
  refine e66 ?_
  by_cases c : a < n
  · have h3 := h3 a ha.1 c
    rw [← h3, ← w_and255] at k
    refine b66_0 ?_
    try simp only [w_Ug, reduceIte, Nat.reduceEqDiff, Int.reduceEq, eq_self, h1]
    repeat' (first | apply And.intro | intro)
    all_goals (try first | omega | contradiction | exact Or.inl trivial | exact Or.inr trivial)
  · have h4 := h4 a (by omega)
    rw [h4] at k
    refine b66_0 ?_
    try simp only [w_Ug, reduceIte, Nat.reduceEqDiff, Int.reduceEq, eq_self, h1]
    repeat' (first | apply And.intro | intro)
    all_goals (try first | omega | contradiction | exact Or.inl trivial | exact Or.inr trivial)
theorem c67 (hb : zG I G n) {p : Int} (hp : 0 ≤ p ∧ p ≤ n) (k : Q (some (w_i (t_af G n p))) I J b) : w_C xs xl 67 [.ref 8, w_i p] I J b Q := by
  have h1 := hb.1
  have h2 := hb.2.1
  refine e67 (b67_0 ?_)
  unfold t_af at k
  generalize hR : t_sk G (n - p).toNat p = R at k
  have loop : ∀ (m : Nat) (l2 : Int) (u1 u3 : Option Value), l2 + m = n → 0 ≤ l2 → t_sk G m l2 = R → w_T xs xl 67 2 [some (.ref 8), u1, some (w_i l2), u3] [] [] I J b Q := by
    intro m
    induction m with
    | zero =>
      intro l2 u1 u3 a0 a1 a2
      have a2 : l2 = R := a2
      have e : R = n := by omega
      rw [e] at k
      refine b67_2 ?_
      try simp only [w_Ug, reduceIte, Nat.reduceEqDiff, Int.reduceEq, eq_self, h1]
      repeat' (first | apply And.intro | intro)
      all_goals (try first | omega | contradiction | exact Or.inl trivial | exact Or.inr trivial)
    | succ m ih =>
      intro l2 u1 u3 a0 a1 a2
      have a2 : (if t_bl (G l2) then t_sk G m (l2 + 1) else l2) = R := a2
      have g := zG_b hb a1
      refine b67_2 ?_
      try simp only [w_Ug, reduceIte, Nat.reduceEqDiff, Int.reduceEq, eq_self, h1]
      repeat' (first | apply And.intro | intro)
      all_goals (try first | omega | contradiction | exact Or.inl trivial | exact Or.inr trivial)
      refine c66 hb (by omega) ?_
      by_cases c : (G l2 = 32 ∨ G l2 = 9 ∨ G l2 = 10 ∨ G l2 = 13)
      · rw [if_pos c] at a2
        have nx := fun u => ih (l2 + 1) u1 u (by omega) (by omega) a2
        refine b67_15 ?_
        try simp only [w_Ug, reduceIte, Nat.reduceEqDiff, Int.reduceEq, eq_self, if_true]
        repeat' (first | apply And.intro | intro)
        all_goals (try first | omega | contradiction | exact Or.inl trivial | exact Or.inr trivial)
        all_goals exact nx _
      · rw [if_neg c] at a2
        rw [← a2] at k
        refine b67_15 ?_
        try simp only [w_Ug, reduceIte, Nat.reduceEqDiff, Int.reduceEq, eq_self, if_true]
        repeat' (first | apply And.intro | intro)
        all_goals (try first | omega | contradiction | exact Or.inl trivial | exact Or.inr trivial)
  exact loop (n - p).toNat p _ _ (by omega) hp.1 hR
theorem c69 (hb : zG I G n) {p a z R : Int} (hp : 0 ≤ p ∧ p ≤ n) (ha : w_in a) (hz : w_in z) (hR : t_rn G a z (n - p).toNat p - p = R) (k : Q (some (w_i R)) I J b) : w_C xs xl 69 [.ref 8, w_i p, w_i a, w_i z] I J b Q := by
  have h1 := hb.1
  have h2 := hb.2.1
  refine e69 (b69_0 ?_)
  have loop : ∀ (m : Nat) (l4 : Int), l4 + m = n → 0 ≤ l4 → t_rn G a z m l4 - p = R → w_T xs xl 69 3 [some (.ref 8), some (w_i p), some (w_i a), some (w_i z), some (w_i l4)] [] [] I J b Q := by
    intro m
    induction m with
    | zero =>
      intro l4 a0 a1 a2
      have a2 : l4 - p = R := a2
      rw [← a2] at k
      refine b69_3 ?_
      try simp only [w_Ug, reduceIte, Nat.reduceEqDiff, Int.reduceEq, eq_self, h1]
      repeat' (first | apply And.intro | intro)
      all_goals (try first | omega | contradiction | exact Or.inl trivial | exact Or.inr trivial)
    | succ m ih =>
      intro l4 a0 a1 a2
      have a2 : (if a ≤ G l4 ∧ G l4 ≤ z then t_rn G a z m (l4 + 1) else l4) - p = R := a2
      have g := zG_b hb a1
      refine b69_3 ?_
      try simp only [w_Ug, reduceIte, Nat.reduceEqDiff, Int.reduceEq, eq_self, h1]
      repeat' (first | apply And.intro | intro)
      all_goals (try first | omega | contradiction | exact Or.inl trivial | exact Or.inr trivial)
      refine c66 hb (by omega) ?_
      by_cases c : a ≤ G l4 ∧ G l4 ≤ z
      · rw [if_pos c] at a2
        have nx := ih (l4 + 1) (by omega) (by omega) a2
        refine b69_18 ?_
        try simp only [w_Ug, reduceIte, Nat.reduceEqDiff, Int.reduceEq, eq_self, if_true]
        repeat' (first | apply And.intro | intro)
        all_goals (try first | omega | contradiction | exact Or.inl trivial | exact Or.inr trivial)
        refine c66 hb (by omega) ?_
        refine b69_28 ?_
        try simp only [w_Ug, reduceIte, Nat.reduceEqDiff, Int.reduceEq, eq_self, if_true]
        repeat' (first | apply And.intro | intro)
        all_goals (try first | omega | contradiction | exact Or.inl trivial | exact Or.inr trivial)
      · rw [if_neg c] at a2
        rw [← a2] at k
        refine b69_18 ?_
        try simp only [w_Ug, reduceIte, Nat.reduceEqDiff, Int.reduceEq, eq_self, if_true]
        repeat' (first | apply And.intro | intro)
        all_goals (try first | omega | contradiction | exact Or.inl trivial | exact Or.inr trivial)
        refine c66 hb (by omega) ?_
        refine b69_28 ?_
        try simp only [w_Ug, reduceIte, Nat.reduceEqDiff, Int.reduceEq, eq_self, if_true]
        repeat' (first | apply And.intro | intro)
        all_goals (try first | omega | contradiction | exact Or.inl trivial | exact Or.inr trivial)
  exact loop (n - p).toNat p (by omega) hp.1 hR
theorem c73 (hb : zG I G n) {bb p L : Int} (h0 : 0 ≤ bb ∧ 0 ≤ L ∧ bb + L ≤ 133) (hp : 0 ≤ p ∧ p + L ≤ n) (k1 : (∀ i, 0 ≤ i → i < L → t_wx (bb + i) = G (p + i)) → Q (some (w_i 1)) I J b) (k0 : ¬ (∀ i, 0 ≤ i → i < L → t_wx (bb + i) = G (p + i)) → Q (some (w_i 0)) I J b) : w_C xs xl 73 [.ref 8, w_i bb, w_i p, w_i L] I J b Q := by
  have h2 := hb.2.1
  refine e73 (b73_0 ?_)
  have loop : ∀ (m : Nat) (l4 : Int), l4 + m = L → 0 ≤ l4 → (∀ i, 0 ≤ i → i < l4 → t_wx (bb + i) = G (p + i)) → w_T xs xl 73 3 [some (.ref 8), some (w_i bb), some (w_i p), some (w_i L), some (w_i l4)] [] [] I J b Q := by
    intro m
    induction m with
    | zero =>
      intro l4 a0 a1 a2
      have kk := k1 (fun i x y => a2 i x (by omega))
      refine b73_3 ?_
      try simp only [w_Ug, reduceIte, Nat.reduceEqDiff, Int.reduceEq, eq_self, if_true]
      repeat' (first | apply And.intro | intro)
      all_goals (try first | omega | contradiction | exact Or.inl trivial | exact Or.inr trivial)
    | succ m ih =>
      intro l4 a0 a1 a2
      have g := zG_b hb (k := p + l4) (by omega)
      have w := t_wx_in (bb + l4)
      refine b73_3 ?_
      try simp only [w_Ug, reduceIte, Nat.reduceEqDiff, Int.reduceEq, eq_self, if_true]
      repeat' (first | apply And.intro | intro)
      all_goals (try first | omega | contradiction | exact Or.inl trivial | exact Or.inr trivial)
      refine c290 ⟨by omega, by omega⟩ (b73_18 ?_)
      refine c66 hb (by omega) ?_
      by_cases c : t_wx (bb + l4) = G (p + l4)
      · have nx := ih (l4 + 1) (by omega) (by omega) (fun i x y => by
          by_cases e : i = l4
          · subst e
            exact c
          · exact a2 i x (by omega))
        refine b73_26 ?_
        try simp only [w_Ug, reduceIte, Nat.reduceEqDiff, Int.reduceEq, eq_self, if_true]
        repeat' (first | apply And.intro | intro)
        all_goals (try first | omega | contradiction | exact Or.inl trivial | exact Or.inr trivial)
      · have kk := k0 (fun h => c (h l4 a1 (by omega)))
        refine b73_26 ?_
        try simp only [w_Ug, reduceIte, Nat.reduceEqDiff, Int.reduceEq, eq_self, if_true]
        repeat' (first | apply And.intro | intro)
        all_goals (try first | omega | contradiction | exact Or.inl trivial | exact Or.inr trivial)
  exact loop L.toNat 0 (by omega) (by omega) (fun i x y => by omega)
/-- the words' text is made of the words -/
def t_fit : Int → List (Nat × Int) → Bool
  | b, [] => decide (b = 133)
  | b, x :: r => (List.range x.1).all (fun i => decide (97 ≤ t_wx (b + i) ∧ t_wx (b + i) ≤ 122)) && decide (t_wx (b + x.1) = 32) && decide (t_nm t_wx x.1 b 0 = x.2) && decide (b + x.1 < 133) && t_fit (b + x.1 + 1) r
theorem t_fit_0 : t_fit 0 t_wt = true := by decide +kernel
theorem t_fit_s {bb : Int} {x : Nat × Int} {r : List (Nat × Int)} (h : t_fit bb (x :: r) = true) : (∀ i : Int, 0 ≤ i → i < x.1 → 97 ≤ t_wx (bb + i) ∧ t_wx (bb + i) ≤ 122) ∧ t_wx (bb + x.1) = 32 ∧ t_nm t_wx x.1 bb 0 = x.2 ∧ bb + x.1 < 133 ∧ t_fit (bb + x.1 + 1) r = true := by
  unfold t_fit at h
  simp only [Bool.and_eq_true, decide_eq_true_eq, List.all_eq_true, List.mem_range] at h
  obtain ⟨⟨⟨⟨h1, h2⟩, h3⟩, h4⟩, h5⟩ := h
  refine ⟨fun i y z => ?_, h2, h3, h4, h5⟩
  have := h1 i.toNat (by omega)
  rw [show ((i.toNat : Nat) : Int) = i by omega] at this
  exact this
theorem c72 (hb : zG I G n) {p L : Int} (hp : 0 ≤ p ∧ 0 ≤ L ∧ p + L ≤ n) (hl : t_let G p L.toNat) (k : Q (some (w_i (t_wd (t_nm G L.toNat p 0)))) I J b) : w_C xs xl 72 [.ref 8, w_i p, w_i L] I J b Q := by
  have h2 := hb.2.1
  refine e72 (b72_0 ?_)
  generalize hv : t_nm G L.toNat p 0 = v at k
  have words : ∀ (l : List (Nat × Int)) (kk bb : Int), 0 ≤ bb → t_fit bb l = true → t_wi v l kk = t_wd v → (20 ≤ kk ∧ kk + l.length ≤ 47) → w_T xs xl 72 8 [some (.ref 8), some (w_i p), some (w_i L), some (w_i (kk - 20)), some (w_i bb), some (w_i bb)] [] [] I J b Q := by
    intro l
    induction l with
    | nil =>
      intro kk bb a0 a1 a2 a3
      have a1 : bb = 133 := of_decide_eq_true a1
      have a2 : 2 = t_wd v := a2
      rw [← a2] at k
      refine b72_8 (c289 ?_)
      refine b72_15 ?_
      try simp only [w_Ug, reduceIte, Nat.reduceEqDiff, Int.reduceEq, eq_self, if_true]
      repeat' (first | apply And.intro | intro)
      all_goals (try first | omega | contradiction | exact Or.inl trivial | exact Or.inr trivial)
    | cons x r ih =>
      intro kk bb a0 a1 a2 a3
      obtain ⟨f1, f2, f3, f4, f5⟩ := t_fit_s a1
      have hlen : (((x :: r).length : Nat) : Int) = r.length + 1 := by simp
      have a2 : (if v = x.2 then kk else t_wi v r (kk + 1)) = t_wd v := a2
      have step : ∀ (m : Nat) (i : Int), i + m = x.1 → 0 ≤ i → w_T xs xl 72 8 [some (.ref 8), some (w_i p), some (w_i L), some (w_i (kk - 20)), some (w_i bb), some (w_i (bb + i))] [] [] I J b Q := by
        intro m
        induction m with
        | zero =>
          intro i b0 b1
          have e : i = x.1 := by omega
          subst e
          refine b72_8 (c289 ?_)
          refine b72_15 ?_
          try simp only [w_Ug, reduceIte, Nat.reduceEqDiff, Int.reduceEq, eq_self, if_true]
          repeat' (first | apply And.intro | intro)
          all_goals (try first | omega | contradiction | exact Or.inl trivial | exact Or.inr trivial)
          refine c290 ⟨by omega, by omega⟩ ?_
          rw [f2]
          have nx : v ≠ x.2 → w_T xs xl 72 8 [some (.ref 8), some (w_i p), some (w_i L), some (w_i (kk - 20 + 1)), some (w_i (bb + x.1 + 1)), some (w_i (bb + x.1 + 1))] [] [] I J b Q := fun hne => by
            rw [if_neg hne] at a2
            have := ih (kk + 1) (bb + x.1 + 1) (by omega) f5 a2 (by omega)
            rw [show kk + 1 - 20 = kk - 20 + 1 by omega] at this
            exact this
          refine b72_25 ?_
          try simp only [w_Ug, reduceIte, Nat.reduceEqDiff, Int.reduceEq, eq_self, if_true]
          repeat' (first | apply And.intro | intro)
          all_goals (try first | omega | contradiction | exact Or.inl trivial | exact Or.inr trivial)
          · rename_i hne
            refine nx (fun e => ?_)
            have := (t_nm_i x.1 L.toNat bb p f1 hl (by rw [f3, hv, e])).1
            omega
          · rename_i heq
            refine c73 hb (by omega) (by omega) (fun hh => ?_) (fun hh => ?_)
            · have e : v = x.2 := by
                rw [← f3, ← hv, show L.toNat = x.1 by omega]
                exact t_nm_c x.1 p bb 0 (fun i y z => (hh i y (by omega)).symm)
              rw [if_pos e] at a2
              rw [← a2, show kk = 20 + (kk - 20) by omega] at k
              refine b72_47 ?_
              try simp only [w_Ug, reduceIte, Nat.reduceEqDiff, Int.reduceEq, eq_self, if_true]
              repeat' (first | apply And.intro | intro)
              all_goals (try first | omega | contradiction | exact Or.inl trivial | exact Or.inr trivial)
            · refine b72_47 ?_
              try simp only [w_Ug, reduceIte, Nat.reduceEqDiff, Int.reduceEq, eq_self, if_true]
              repeat' (first | apply And.intro | intro)
              all_goals (try first | omega | contradiction | exact Or.inl trivial | exact Or.inr trivial)
              refine nx (fun e => hh (fun i y z => ?_))
              exact (t_nm_i x.1 L.toNat bb p f1 hl (by rw [f3, hv, e])).2 i y (by omega)
        | succ m ihm =>
          intro i b0 b1
          have f := f1 i b1 (by omega)
          refine b72_8 (c289 ?_)
          refine b72_15 ?_
          try simp only [w_Ug, reduceIte, Nat.reduceEqDiff, Int.reduceEq, eq_self, if_true]
          repeat' (first | apply And.intro | intro)
          all_goals (try first | omega | contradiction | exact Or.inl trivial | exact Or.inr trivial)
          refine c290 ⟨by omega, by omega⟩ ?_
          have nx := ihm (i + 1) (by omega) (by omega)
          rw [show bb + (i + 1) = bb + i + 1 by omega] at nx
          refine b72_25 ?_
          try simp only [w_Ug, reduceIte, Nat.reduceEqDiff, Int.reduceEq, eq_self, if_true]
          repeat' (first | apply And.intro | intro)
          all_goals (try first | omega | contradiction | exact Or.inl trivial | exact Or.inr trivial)
      have := step x.1 0 (by omega) (by omega)
      rw [Int.add_zero] at this
      exact this
  exact words t_wt 20 0 (by omega) t_fit_0 rfl ⟨by decide, by decide⟩
theorem c74 {a : Int} (ha : w_in a) (k : Q (some (w_i (t_db a))) I J b) : w_C xs xl 74 [w_i a] I J b Q := by
  have kk : ∀ z, t_db a = z → Q (some (w_i z)) I J b := fun z e => e ▸ k
  refine e74 ?_
  refine b74_0 ?_
  try simp only [w_Ug, reduceIte, Nat.reduceEqDiff, Int.reduceEq, eq_self, if_true]
  repeat' (first | apply And.intro | intro)
  all_goals (try first | omega | contradiction | exact Or.inl trivial | exact Or.inr trivial)
  all_goals exact kk _ (by unfold t_db; repeat' split; all_goals omega)
theorem c75 {a : Int} (ha : w_in a) (k : Q (some (w_i (t_sg a))) I J b) : w_C xs xl 75 [w_i a] I J b Q := by
  have kk : ∀ z, t_sg a = z → Q (some (w_i z)) I J b := fun z e => e ▸ k
  refine e75 ?_
  refine b75_0 ?_
  try simp only [w_Ug, reduceIte, Nat.reduceEqDiff, Int.reduceEq, eq_self, if_true]
  repeat' (first | apply And.intro | intro)
  all_goals (try first | omega | contradiction | exact Or.inl trivial | exact Or.inr trivial)
  all_goals exact kk _ (by unfold t_sg; repeat' split; all_goals omega)
theorem c70 (hb : zG I G n) {t p : Int} (ht : 0 ≤ t ∧ t < 402) (hp : 0 ≤ p ∧ p < n) (hl : t_lt (G p)) (k : Q (some (w_i (t_wl G n p))) (w_U (w_U I 15 t (t_kw G n p)) 16 t (t_wl G n p)) J b) : w_C xs xl 70 [.ref 8, w_i t, w_i p] I J b Q := by
  have hw := t_wl_b hp.2 hl
  have h2 := hb.2.1
  refine e70 (b70_0 ?_)
  refine c69 hb (by omega) (by decide) (by decide) (R := t_wl G n p) rfl ?_
  unfold t_kw at k
  by_cases c : 8 < t_wl G n p
  · rw [if_pos c] at k
    refine b70_9 ?_
    try simp only [w_Ug, reduceIte, Nat.reduceEqDiff, Int.reduceEq, eq_self, if_true]
    repeat' (first | apply And.intro | intro)
    all_goals (try first | omega | contradiction | exact Or.inl trivial | exact Or.inr trivial)
  · rw [if_neg c] at k
    refine b70_9 ?_
    try simp only [w_Ug, reduceIte, Nat.reduceEqDiff, Int.reduceEq, eq_self, if_true]
    repeat' (first | apply And.intro | intro)
    all_goals (try first | omega | contradiction | exact Or.inl trivial | exact Or.inr trivial)
    refine c72 hb (by omega) hw.2.2 ?_
    refine b70_31 ?_
    try simp only [w_Ug, reduceIte, Nat.reduceEqDiff, Int.reduceEq, eq_self, if_true]
    repeat' (first | apply And.intro | intro)
    all_goals (try first | omega | contradiction | exact Or.inl trivial | exact Or.inr trivial)
theorem c71 (hb : zG I G n) {t p : Int} (ht : 0 ≤ t ∧ t < 402) (hp : 0 ≤ p ∧ p < n) (hd : t_dt (G p)) (h0 : I 16 t = 0) (k : ∀ I' : w_I, (∀ a, a ≠ 15 → a ≠ 16 → I' a = I a) → I' 15 = u1 (I 15) t (if 4 < t_dl G n p then 1 else 3) → I' 16 = u1 (I 16) t (t_vd G n p) → Q (some (w_i (t_dl G n p))) I' J b) : w_C xs xl 71 [.ref 8, w_i t, w_i p] I J b Q := by
  have hw := t_dl_b hp.2 hd
  have h2 := hb.2.1
  refine e71 (b71_0 ?_)
  refine c69 hb (by omega) (by decide) (by decide) (R := t_dl G n p) rfl ?_
  unfold t_vd at k
  generalize hL : t_dl G n p = L at k hw
  by_cases c : 4 < L
  · rw [if_pos c, if_pos c] at k
    refine b71_9 ?_
    try simp only [w_Ug, reduceIte, Nat.reduceEqDiff, Int.reduceEq, eq_self, if_true]
    repeat' (first | apply And.intro | intro)
    all_goals (try first | omega | contradiction | exact Or.inl trivial | exact Or.inr trivial)
    have kk := k (w_U I 15 t 1) (fun a x y => w_Ua x) w_U1 (by rw [w_Ua (by decide), u1_s h0])
    refine b71_29 ?_
    try simp only [w_Ug, reduceIte, Nat.reduceEqDiff, Int.reduceEq, eq_self, if_true]
    repeat' (first | apply And.intro | intro)
    all_goals (try first | omega | contradiction | exact Or.inl trivial | exact Or.inr trivial)
  · rw [if_neg c, if_neg c] at k
    refine b71_9 ?_
    try simp only [w_Ug, reduceIte, Nat.reduceEqDiff, Int.reduceEq, eq_self, if_true]
    repeat' (first | apply And.intro | intro)
    all_goals (try first | omega | contradiction | exact Or.inl trivial | exact Or.inr trivial)
    generalize hV : t_dg G L.toNat p 0 = V at k
    have loop : ∀ (m : Nat) (l4 x : Int) (I1 : w_I), l4 + m = L → 0 ≤ l4 → (∀ a, a ≠ 15 → a ≠ 16 → I1 a = I a) → I1 15 = u1 (I 15) t 3 → I1 16 = u1 (I 16) t x → t_dg G m (p + l4) x = V → w_T xs xl 71 29 [some (.ref 8), some (w_i t), some (w_i p), some (w_i L), some (w_i l4)] [] [] I1 J b Q := by
      intro m
      induction m with
      | zero =>
        intro l4 x I1 a0 a1 a2 a3 a4 a5
        have a5 : x = V := a5
        rw [a5] at a4
        have kk := k I1 a2 a3 a4
        refine b71_29 ?_
        try simp only [w_Ug, reduceIte, Nat.reduceEqDiff, Int.reduceEq, eq_self, if_true]
        repeat' (first | apply And.intro | intro)
        all_goals (try first | omega | contradiction | exact Or.inl trivial | exact Or.inr trivial)
      | succ m ih =>
        intro l4 x I1 a0 a1 a2 a3 a4 a5
        have a5 : t_dg G m (p + l4 + 1) (10 * x + G (p + l4) - 48) = V := a5
        have hb1 : zG I1 G n := zG_f hb (by rw [a2 8 (by decide) (by decide)]) (a2 1 (by decide) (by decide))
        have e : I1 16 t = x := by rw [a4, u1g, if_pos rfl]
        refine b71_29 ?_
        try simp only [w_Ug, reduceIte, Nat.reduceEqDiff, Int.reduceEq, eq_self, e]
        repeat' (first | apply And.intro | intro)
        all_goals (try first | omega | contradiction | exact Or.inl trivial | exact Or.inr trivial)
        refine c66 hb1 (by omega) ?_
        refine b71_62 ?_
        try simp only [w_Ug, reduceIte, Nat.reduceEqDiff, Int.reduceEq, eq_self, if_true]
        repeat' (first | apply And.intro | intro)
        all_goals (try first | omega | contradiction | exact Or.inl trivial | exact Or.inr trivial)
        refine ih (l4 + 1) (10 * x + G (p + l4) - 48) _ (by omega) (by omega) (fun a y z => ?_) ?_ ?_ ?_
        · rw [w_Ua z, a2 a y z]
        · rw [w_Ua (by decide), a3]
        · rw [w_U1, a4, u1_u, show x * 10 + G (p + l4) - 48 = 10 * x + G (p + l4) - 48 by omega]
        · rw [show p + (l4 + 1) = p + l4 + 1 by omega]
          exact a5
    refine loop L.toNat 0 0 _ (by omega) (by omega) (fun a x y => w_Ua x) w_U1 ?_ ?_
    · rw [w_Ua (by decide), u1_s h0]
    · rw [Int.add_zero]
      exact hV
theorem c68 (hb : zG I G n) {t p : Int} (ht : 0 ≤ t ∧ t < 402) (hp : 0 ≤ p ∧ p ≤ n) (k : ∀ I' : w_I, (∀ a, a ≠ 15 → a ≠ 16 → I' a = I a) → I' 15 = u1 (I 15) t (t_kd G n p) → I' 16 = u1 (I 16) t (t_vl G n p) → Q (some (w_i (t_ln G n p))) I' J b) : w_C xs xl 68 [.ref 8, w_i t, w_i p] I J b Q := by
  have h1 := hb.1
  have h2 := hb.2.1
  have g := zG_b hb hp.1
  have g1 := zG_b hb (k := p + 1) (by omega)
  have hb2 : zG (w_U I 16 t 0) G n := zG_f hb (by rw [w_Ua (by decide)]) (w_Ua (by decide))
  refine e68 (b68_0 (c66 hb (by omega) ?_))
  unfold t_kd t_vl t_ln at k
  by_cases c0 : n ≤ p
  · rw [if_pos c0, if_pos c0, if_pos c0] at k
    have kk := k (w_U (w_U I 16 t 0) 15 t 0) (fun a x y => by rw [w_Ua x, w_Ua y]) (by rw [w_U1, w_Ua (by decide)]) (by rw [w_Ua (by decide), w_U1])
    refine b68_5 ?_
    try simp only [w_Ug, reduceIte, Nat.reduceEqDiff, Int.reduceEq, eq_self, h1]
    repeat' (first | apply And.intro | intro)
    all_goals (try first | omega | contradiction | exact Or.inl trivial | exact Or.inr trivial)
  · rw [if_neg c0, if_neg c0, if_neg c0] at k
    by_cases c1 : 97 ≤ G p ∧ G p ≤ 122
    · rw [if_pos c1, if_pos c1, if_pos c1] at k
      refine b68_5 ?_
      try simp only [w_Ug, reduceIte, Nat.reduceEqDiff, Int.reduceEq, eq_self, h1]
      repeat' (first | apply And.intro | intro)
      all_goals (try first | omega | contradiction | exact Or.inl trivial | exact Or.inr trivial)
      refine c70 hb2 ht ⟨hp.1, by omega⟩ c1 (b68_48 ?_)
      refine k _ (fun a x y => by rw [w_Ua y, w_Ua x, w_Ua y]) ?_ ?_
      · rw [w_Ua (by decide), w_U1, w_Ua (by decide)]
      · rw [w_U1, w_Ua (by decide), w_U1, u1_u]
    · rw [if_neg c1, if_neg c1, if_neg c1] at k
      by_cases c2 : 48 ≤ G p ∧ G p ≤ 57
      · rw [if_pos c2, if_pos c2, if_pos c2] at k
        have fin : w_C xs xl 71 [.ref 8, w_i t, w_i p] (w_U I 16 t 0) J b (fun v Ic Jc bc => w_T xs xl 68 67 [some (.ref 8), some (w_i t), some (w_i p), some (w_i (G p)), none] [] (w_pv v []) Ic Jc bc Q) := by
          refine c71 hb2 ht ⟨hp.1, by omega⟩ c2 (by rw [w_U1, u1g, if_pos rfl]) (fun I' f1 f2 f3 => b68_67 ?_)
          refine k I' (fun a x y => by rw [f1 a x y, w_Ua y]) ?_ ?_
          · rw [f2, w_Ua (by decide)]
          · rw [f3, w_U1, u1_u]
        refine b68_5 ?_
        try simp only [w_Ug, reduceIte, Nat.reduceEqDiff, Int.reduceEq, eq_self, h1]
        repeat' (first | apply And.intro | intro)
        all_goals (try first | omega | contradiction | exact Or.inl trivial | exact Or.inr trivial)
      · rw [if_neg c2, if_neg c2, if_neg c2] at k
        have last : ∀ z len, (if t_tw G p then t_db (G p) else t_sg (G p)) = z → (if t_tw G p then 2 else 1) = len → Q (some (w_i len)) (w_U (w_U I 16 t 0) 15 t z) J b := by
          intro z len e1 e2
          rw [e1, e2] at k
          exact k _ (fun a x y => by rw [w_Ua x, w_Ua y]) (by rw [w_U1, w_Ua (by decide)]) (by rw [w_Ua (by decide), w_U1])
        have fin : w_C xs xl 66 [.ref 8, w_i (p + 1)] (w_U I 16 t 0) J b (fun v Ic Jc bc => w_T xs xl 68 75 [some (.ref 8), some (w_i t), some (w_i p), some (w_i (G p)), none] [] (w_pv v []) Ic Jc bc Q) := by
          refine c66 hb2 (by omega) ?_
          by_cases c3 : G (p + 1) = 61 ∧ (G p = 61 ∨ G p = 33 ∨ G p = 60)
          · have kk := last (t_db (G p)) 2 (if_pos c3) (if_pos c3)
            have f74 : w_C xs xl 74 [w_i (G p)] (w_U I 16 t 0) J b (fun v Ic Jc bc => w_T xs xl 68 119 [some (.ref 8), some (w_i t), some (w_i p), some (w_i (G p)), some (w_i 1)] [] (w_pv v [w_i t, .ref 15]) Ic Jc bc Q) := by
              refine c74 (by omega) ?_
              refine b68_119 ?_
              try simp only [w_Ug, reduceIte, Nat.reduceEqDiff, Int.reduceEq, eq_self, if_true]
              repeat' (first | apply And.intro | intro)
              all_goals (try first | omega | contradiction | exact Or.inl trivial | exact Or.inr trivial)
            refine b68_75 ?_
            try simp only [w_Ug, reduceIte, Nat.reduceEqDiff, Int.reduceEq, eq_self, if_true]
            repeat' (first | apply And.intro | intro)
            all_goals (try first | omega | contradiction | exact Or.inl trivial | exact Or.inr trivial)
          · have kk := last (t_sg (G p)) 1 (if_neg c3) (if_neg c3)
            have f75 : w_C xs xl 75 [w_i (G p)] (w_U I 16 t 0) J b (fun v Ic Jc bc => w_T xs xl 68 126 [some (.ref 8), some (w_i t), some (w_i p), some (w_i (G p)), some (w_i 0)] [] (w_pv v [w_i t, .ref 15]) Ic Jc bc Q) := by
              refine c75 (by omega) ?_
              refine b68_126 ?_
              try simp only [w_Ug, reduceIte, Nat.reduceEqDiff, Int.reduceEq, eq_self, if_true]
              repeat' (first | apply And.intro | intro)
              all_goals (try first | omega | contradiction | exact Or.inl trivial | exact Or.inr trivial)
            refine b68_75 ?_
            try simp only [w_Ug, reduceIte, Nat.reduceEqDiff, Int.reduceEq, eq_self, if_true]
            repeat' (first | apply And.intro | intro)
            all_goals (try first | omega | contradiction | exact Or.inl trivial | exact Or.inr trivial)
        refine b68_5 ?_
        try simp only [w_Ug, reduceIte, Nat.reduceEqDiff, Int.reduceEq, eq_self, h1]
        repeat' (first | apply And.intro | intro)
        all_goals (try first | omega | contradiction | exact Or.inl trivial | exact Or.inr trivial)
/-- the class's tokens -/
def zT (I : w_I) (K V P : Int → Int) (N : Int) : Prop := ∀ i, 0 ≤ i → i ≤ N → I 15 i = K i ∧ I 16 i = V i ∧ I 17 i = P i
theorem c65 (hb : zG I G n) (k : ∀ (N : Int) (I' : w_I), (0 ≤ N ∧ N ≤ 400) → (∀ i, 0 ≤ i → i < N → 2 ≤ t_K G n i) → (t_K G n N ≤ 1 ∨ N = 400) → (∀ a, a ≠ 15 → a ≠ 16 → a ≠ 17 → I' a = I a) → zT I' (t_K G n) (t_V G n) (t_P G n) N → Q none I' J b) : w_C xs xl 65 [.ref 8] I J b Q := by
  have h2 := hb.2.1
  have hz := hb.2.2.2
  refine e65 (b65_0 ?_)
  have loop : ∀ (m : Nat) (t : Int) (I1 : w_I), t + m = 401 → 0 ≤ t → (∀ a, a ≠ 15 → a ≠ 16 → a ≠ 17 → I1 a = I a) → (∀ i, 0 ≤ i → i < t → I1 15 i = t_K G n i ∧ I1 16 i = t_V G n i ∧ I1 17 i = t_P G n i) → (∀ i, 0 ≤ i → i < t → 2 ≤ t_K G n i) →
      w_T xs xl 65 6 [some (.ref 8), some (w_i (t_q G n t.toNat)), some (w_i 1), some (w_i t)] [] [] I1 J b Q := by
    intro m
    induction m with
    | zero =>
      intro t I1 a0 a1 a2 a3 a4
      have kk := k 400 I1 (by omega) (fun i x y => a4 i x (by omega)) (Or.inr rfl) a2 (fun i x y => a3 i x (by omega))
      refine b65_6 ?_
      try simp only [w_Ug, reduceIte, Nat.reduceEqDiff, Int.reduceEq, eq_self, if_true]
      repeat' (first | apply And.intro | intro)
      all_goals (try first | omega | contradiction | exact Or.inl trivial | exact Or.inr trivial)
    | succ m ih =>
      intro t I1 a0 a1 a2 a3 a4
      have hb1 : zG I1 G n := zG_f hb (by rw [a2 8 (by decide) (by decide) (by decide)]) (a2 1 (by decide) (by decide) (by decide))
      have qb := t_q_b h2.1 hz t.toNat
      have pb := t_p_b h2.1 hz t.toNat
      have lb := t_ln_b hz pb.2
      refine b65_6 ?_
      try simp only [w_Ug, reduceIte, Nat.reduceEqDiff, Int.reduceEq, eq_self, if_true]
      repeat' (first | apply And.intro | intro)
      all_goals (try first | omega | contradiction | exact Or.inl trivial | exact Or.inr trivial)
      refine c67 hb1 qb ?_
      have ep : t_af G n (t_q G n t.toNat) = t_p G n t.toNat := rfl
      rw [ep]
      refine b65_22 ?_
      try simp only [w_Ug, reduceIte, Nat.reduceEqDiff, Int.reduceEq, eq_self, if_true]
      repeat' (first | apply And.intro | intro)
      all_goals (try first | omega | contradiction | exact Or.inl trivial | exact Or.inr trivial)
      refine c68 (zG_f hb1 (by rw [w_Ua (by decide)]) (w_Ua (by decide))) (by omega) pb (fun I2 g1 g2 g3 => ?_)
      rw [w_Ua (by decide)] at g2 g3
      have g17 : I2 17 = u1 (I1 17) t (t_p G n t.toNat) := by rw [g1 17 (by decide) (by decide), w_U1]
      have fr : ∀ a, a ≠ 15 → a ≠ 16 → a ≠ 17 → I2 a = I a := fun a x y z => by rw [g1 a x y, w_Ua z, a2 a x y z]
      have e15 : I2 15 t = t_K G n t := by
        rw [g2, u1g, if_pos rfl]
        rfl
      have kb := t_kd_b (G := G) (n := n) (t_p G n t.toNat)
      have kd : t_K G n t = t_kd G n (t_p G n t.toNat) := rfl
      have st : ∀ i, 0 ≤ i → i < t + 1 → I2 15 i = t_K G n i ∧ I2 16 i = t_V G n i ∧ I2 17 i = t_P G n i := by
        intro i x y
        rw [g2, g3, g17, u1g, u1g, u1g]
        by_cases e : i = t
        · subst e
          rw [if_pos rfl, if_pos rfl, if_pos rfl]
          exact ⟨rfl, rfl, rfl⟩
        · rw [if_neg e, if_neg e, if_neg e]
          exact a3 i x (by omega)
      by_cases c : t_K G n t ≤ 1
      · have kk := k t I2 (by omega) a4 (Or.inl c) fr (fun i x y => st i x (by omega))
        have nx : ∀ u : Int, w_T xs xl 65 6 [some (.ref 8), some (w_i u), some (w_i 0), some (w_i (t + 1))] [] [] I2 J b Q := by
          intro u
          refine b65_6 ?_
          try simp only [w_Ug, reduceIte, Nat.reduceEqDiff, Int.reduceEq, eq_self, if_true]
          repeat' (first | apply And.intro | intro)
          all_goals (try first | omega | contradiction | exact Or.inl trivial | exact Or.inr trivial)
        refine b65_37 ?_
        try simp only [w_Ug, reduceIte, Nat.reduceEqDiff, Int.reduceEq, eq_self, e15]
        repeat' (first | apply And.intro | intro)
        all_goals (try first | omega | contradiction | exact Or.inl trivial | exact Or.inr trivial)
        all_goals exact nx _
      · have nx := ih (t + 1) I2 (by omega) (by omega) fr st (fun i x y => by
          by_cases e : i = t
          · subst e
            omega
          · exact a4 i x (by omega))
        rw [show (t + 1).toNat = t.toNat + 1 by omega, t_q_s] at nx
        refine b65_37 ?_
        try simp only [w_Ug, reduceIte, Nat.reduceEqDiff, Int.reduceEq, eq_self, e15]
        repeat' (first | apply And.intro | intro)
        all_goals (try first | omega | contradiction | exact Or.inl trivial | exact Or.inr trivial)
  exact loop 401 0 I (by omega) (by omega) (fun _ _ _ _ => rfl) (fun i x y => by omega) (fun i x y => by omega)
end
