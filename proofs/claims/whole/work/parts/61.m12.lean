section
/-! the reference: LEAST's table -/
variable {xs : Nat → Int32} {xl : Nat} {I J : w_I} {b : Bool} {Q : Option Value → w_I → w_I → Bool → Prop}
variable {s : Int → Int}
theorem m_clamp_b (v : Int) {most : Int} (hm : 0 ≤ most) : 0 ≤ m_clamp v most ∧ m_clamp v most ≤ most := by
  unfold m_clamp
  repeat' split
  all_goals omega
theorem m_cost_b {F : m_F} {ag sz lm fr to : Int} : 0 ≤ m_cost F s ag sz lm fr to ∧ m_cost F s ag sz lm fr to ≤ 9999 := by
  unfold m_cost
  exact m_clamp_b _ (by decide)
def m_pay (F : m_F) (s : Int → Int) (cs : Int) (hm ag sz lm : Int → Int) (i h : Int) : Int := if hm i = h then 0 else (if hm i < 0 then 0 else 1000000) + (if cs = 0 then 0 else m_cost F s (ag i) (sz i) (lm i) (hm i) h)
theorem m_pay_b {F : m_F} {cs : Int} {hm ag sz lm : Int → Int} {i h : Int} : 0 ≤ m_pay F s cs hm ag sz lm i h ∧ m_pay F s cs hm ag sz lm i h ≤ 1009999 := by
  have := m_cost_b (s := s) (F := F) (ag := ag i) (sz := sz i) (lm := lm i) (fr := hm i) (to := h)
  unfold m_pay
  repeat' split
  all_goals omega
/-- the places from lo to n hold sound rows -/
abbrev q_in (I : w_I) (n : Int) : Prop := ∀ i, 0 ≤ i → i < n → (-1 ≤ I 128 i ∧ I 128 i < 100) ∧ w_in (I 129 i) ∧ w_in (I 130 i) ∧ w_in (I 131 i)
theorem s242 {F : m_F} {i h cs : Int} (hs : I 110 = s) (hF : m_at I F) (w : m_w0 s) (cd : m_cd F s) (hi : 0 ≤ i ∧ i < 32) (hh : 0 ≤ h ∧ h < 100) (hcs : cs = 0 ∨ cs = 1) (h8 : (-1 ≤ I 128 i ∧ I 128 i < 100) ∧ w_in (I 129 i) ∧ w_in (I 130 i) ∧ w_in (I 131 i))
    (k : ∀ I', w_fr pC I I' → Q (some (w_i (m_pay F s cs (I 128) (I 129) (I 130) (I 131) i h))) I' J b) : w_C xs xl 242 [.ref 104, w_i i, w_i h, w_i cs] I J b Q := by
  obtain ⟨h8, h9, h10, h11⟩ := h8
  unfold m_pay at k
  have k0 := k I w_frr
  refine e242 ?_
  rcases hcs with rfl | rfl
  · refine b242_0 ?_
    try simp only [w_Ug, reduceIte, Nat.reduceEqDiff, Int.reduceEq, eq_self, if_true]
    repeat' (first | apply And.intro | intro)
    all_goals (try first | omega | contradiction | exact Or.inl trivial | exact Or.inr trivial)
    · rename_i c1 c2 _
      rw [if_neg c1, if_neg (by omega), if_pos rfl] at k0; exact k0
    · rename_i c1 c2 _
      rw [if_neg c1, if_pos (by omega), if_pos rfl] at k0; exact k0
    · rename_i c1
      rw [if_pos c1] at k0; exact k0
  · refine b242_0 ?_
    try simp only [w_Ug, reduceIte, Nat.reduceEqDiff, Int.reduceEq, eq_self, if_true]
    repeat' (first | apply And.intro | intro)
    all_goals (try first | omega | contradiction | exact Or.inl trivial | exact Or.inr trivial)
    · rename_i c1 c2 _
      refine s241 hs hF w cd hi (by omega) ⟨h9, h10, h11⟩ hh (fun I1 fr1 => b242_38 ?_)
      have k := k I1 fr1
      rw [if_neg c1, if_neg (by omega), if_neg (by decide)] at k; exact k
    · rename_i c1 c2 _
      refine s241 hs hF w cd hi (by omega) ⟨h9, h10, h11⟩ hh (fun I1 fr1 => b242_38 ?_)
      have k := k I1 fr1
      rw [if_neg c1, if_pos (by omega), if_neg (by decide)] at k; exact k
    · rename_i c1
      rw [if_pos c1] at k0; exact k0
def pL (a : Nat) (k : Int) : Bool := a == 132 || (a == 104 && k == 44) || pC a k
theorem pC_L {I I' : w_I} (h : w_fr pC I I') : w_fr pL I I' := w_frm h (fun a k e => by
  unfold pL at e
  cases h : pC a k
  · rfl
  · rw [h, Bool.or_true] at e; cases e)
/-- the table from row i on -/
def l_tab (I : w_I) (pay : Int → Int → Int) (n H : Int) (i : Int) : Prop := ∀ i' h, i ≤ i' → i' ≤ n → 0 ≤ h → h ≤ H → I 132 (25 * i' + h) = l_D pay H (n - i').toNat i' (H - h).toNat
theorem s243 {F : m_F} {n H cs : Int} (hs : I 110 = s) (hF : m_at I F) (w : m_w0 s) (cd : m_cd F s) (hn : I 104 36 = n) (hb : 0 ≤ n ∧ n ≤ 25 ∧ 0 ≤ H ∧ H ≤ 24) (hcs : cs = 0 ∨ cs = 1) (hq : q_in I n)
    (k : ∀ I', w_fr pL I I' → l_tab I' (m_pay F s cs (I 128) (I 129) (I 130) (I 131)) n H 0 → Q (some (w_i (l_D (m_pay F s cs (I 128) (I 129) (I 130) (I 131)) H n.toNat 0 H.toNat))) I' J b) : w_C xs xl 243 [.ref 104, w_i H, w_i cs] I J b Q := by
  have pb : ∀ i h, 0 ≤ m_pay F s cs (I 128) (I 129) (I 130) (I 131) i h ∧ m_pay F s cs (I 128) (I 129) (I 130) (I 131) i h ≤ 1009999 := fun i h => m_pay_b
  have pay_s : ∀ (I1 : w_I), w_fr pL I I1 → m_pay F s cs (I1 128) (I1 129) (I1 130) (I1 131) = m_pay F s cs (I 128) (I 129) (I 130) (I 131) := fun I1 fr => by
    rw [w_frA (a := 128) fr (fun _ => rfl), w_frA (a := 129) fr (fun _ => rfl), w_frA (a := 130) fr (fun _ => rfl), w_frA (a := 131) fr (fun _ => rfl)]
  generalize m_pay F s cs (I 128) (I 129) (I 130) (I 131) = pay at k pb pay_s
  have lb : ∀ (i : Int) (k : Nat) (j : Nat), (j : Int) ≤ H → (k : Int) ≤ 25 → 0 ≤ l_D pay H k i j ∧ l_D pay H k i j ≤ 100000000 := by
    intro i k j hj hk
    have := l_D_b (pay := pay) (H := H) k i (fun i' h _ _ _ _ => pb i' h) j hj
    omega
  have outer : ∀ (m : Nat) (l3 : Int) (u4 u5 u6 u7 : Option Value) (I1 : w_I), l3 + 1 = m → l3 < n → w_fr pL I I1 → l_tab I1 pay n H (l3 + 1) → w_T xs xl 243 40 [some (.ref 104), some (w_i H), some (w_i cs), some (w_i l3), u4, u5, u6, u7] [] [] I1 J b Q := by
    intro m
    induction m with
    | zero =>
      intro l3 u4 u5 u6 u7 I1 a0 a1 a2 a3
      have e : l3 + 1 = 0 := by omega
      rw [e] at a3
      have z := a3 0 0 (by omega) (by omega) (by omega) (by omega)
      have kk := k I1 a2 a3
      rw [show n - 0 = n by omega, show H - 0 = H by omega, show 25 * (0 : Int) + 0 = 0 by omega] at z
      rw [← z] at kk
      refine b243_40 ?_
      try simp only [w_Ug, reduceIte, Nat.reduceEqDiff, Int.reduceEq, eq_self, if_true]
      repeat' (first | apply And.intro | intro)
      all_goals (try first | omega | contradiction | exact Or.inl trivial | exact Or.inr trivial)
    | succ m ih =>
      intro l3 u4 u5 u6 u7 I1 a0 a1 a2 a3
      have inner : ∀ (j : Nat) (l4 : Int) (u5 u6 u7 : Option Value) (I2 : w_I), l4 + 1 = j → l4 < H → w_fr pL I I2 → l_tab I2 pay n H (l3 + 1) → (∀ h, l4 < h → h ≤ H → I2 132 (25 * l3 + h) = l_D pay H (n - l3).toNat l3 (H - h).toNat) →
          w_T xs xl 243 63 [some (.ref 104), some (w_i H), some (w_i cs), some (w_i l3), some (w_i l4), u5, u6, u7] [] [] I2 J b Q := by
        intro j
        induction j with
        | zero =>
          intro l4 u5 u6 u7 I2 b0 b1 b2 b3 b4
          refine b243_63 ?_
          try simp only [w_Ug, reduceIte, Nat.reduceEqDiff, Int.reduceEq, eq_self, if_true]
          repeat' (first | apply And.intro | intro)
          all_goals (try first | omega | contradiction | exact Or.inl trivial | exact Or.inr trivial)
          refine ih (l3 + -1) _ _ _ _ I2 (by omega) (by omega) b2 ?_
          rw [show l3 + -1 + 1 = l3 by omega]
          intro i' h c1 c2 c3 c4
          by_cases e : i' = l3
          · subst e; exact b4 h (by omega) c4
          · exact b3 i' h (by omega) c2 c3 c4
        | succ j ihj =>
          intro l4 u5 u6 u7 I2 b0 b1 b2 b3 b4
          have next := b3 (l3 + 1) (l4 + 1) (by omega) (by omega) (by omega) (by omega)
          rw [show 25 * (l3 + 1) + (l4 + 1) = 25 * l3 + 25 + l4 + 1 by omega] at next
          have on := b4 (l4 + 1) (by omega) (by omega)
          rw [show 25 * l3 + (l4 + 1) = 25 * l3 + l4 + 1 by omega] at on
          have nb := lb (l3 + 1) (n - (l3 + 1)).toNat (H - (l4 + 1)).toNat (by omega) (by omega)
          have ob := lb l3 (n - l3).toNat (H - (l4 + 1)).toNat (by omega) (by omega)
          have pp := pb l3 l4
          have def' : l_D pay H (n - l3).toNat l3 (H - l4).toNat = if (if 100000000 ≤ l_D pay H (n - (l3 + 1)).toNat (l3 + 1) (H - (l4 + 1)).toNat then 100000000 else l_D pay H (n - (l3 + 1)).toNat (l3 + 1) (H - (l4 + 1)).toNat + pay l3 l4) < l_D pay H (n - l3).toNat l3 (H - (l4 + 1)).toNat then (if 100000000 ≤ l_D pay H (n - (l3 + 1)).toNat (l3 + 1) (H - (l4 + 1)).toNat then 100000000 else l_D pay H (n - (l3 + 1)).toNat (l3 + 1) (H - (l4 + 1)).toNat + pay l3 l4) else l_D pay H (n - l3).toNat l3 (H - (l4 + 1)).toNat := by
            rw [show (n - l3).toNat = (n - (l3 + 1)).toNat + 1 by omega, l_D_s, show (H - l4).toNat = (H - (l4 + 1)).toNat + 1 by omega, l_dr_s, show H - ((((H - (l4 + 1)).toNat : Nat) : Int) + 1) = l4 by omega]
          generalize l_D pay H (n - (l3 + 1)).toNat (l3 + 1) (H - (l4 + 1)).toNat = nx at next nb def'
          generalize l_D pay H (n - l3).toNat l3 (H - (l4 + 1)).toNat = ox at on ob def'
          -- what is put
          have fin : ∀ (v : Int) (u5 u6 u7 : Option Value) (I3 : w_I), w_fr pL I I3 → I3 132 = I2 132 → v = l_D pay H (n - l3).toNat l3 (H - l4).toNat → w_T xs xl 243 63 [some (.ref 104), some (w_i H), some (w_i cs), some (w_i l3), some (w_i (l4 + -1)), u5, u6, u7] [] [] (w_U I3 132 (25 * l3 + l4) v) J b Q := by
            intro v u5 u6 u7 I3 fr3 e3 ev
            refine ihj (l4 + -1) u5 u6 u7 _ (by omega) (by omega) (w_frU fr3 rfl) (fun i' h c1 c2 c3 c4 => ?_) (fun h c1 c2 => ?_)
            · rw [w_Ug, if_pos rfl, if_neg (by omega), e3]
              exact b3 i' h c1 c2 c3 c4
            · rw [w_Ug, if_pos rfl]
              by_cases e : h = l4
              · subst e; rw [if_pos rfl]; exact ev
              · rw [if_neg (by omega), e3]; exact b4 h (by omega) c2
          by_cases c1 : 100000000 ≤ nx
          · rw [if_pos c1] at def'
            by_cases c2 : (100000000 : Int) < ox
            · omega
            · rw [if_neg c2] at def'
              refine b243_63 ?_
              try simp only [w_Ug, reduceIte, Nat.reduceEqDiff, Int.reduceEq, eq_self, next, on]
              repeat' (first | apply And.intro | intro)
              all_goals (try first | omega | contradiction | exact Or.inl trivial | exact Or.inr trivial)
              exact fin _ _ _ _ _ b2 rfl def'.symm
          · rw [if_neg c1] at def'
            have hs2 : I2 110 = s := (w_frA b2 (fun _ => rfl)).trans hs
            have hF2 := m_at_fr hF b2 (fun _ => rfl) (fun _ => rfl) (fun _ => rfl) (fun _ => rfl) (fun _ => rfl) (fun _ => rfl) (fun _ => rfl) (fun _ => rfl)
            have q2 := hq l3 (by omega) (by omega)
            rw [← w_frA (a := 128) b2 (fun _ => rfl), ← w_frA (a := 129) b2 (fun _ => rfl), ← w_frA (a := 130) b2 (fun _ => rfl), ← w_frA (a := 131) b2 (fun _ => rfl)] at q2
            refine b243_63 ?_
            try simp only [w_Ug, reduceIte, Nat.reduceEqDiff, Int.reduceEq, eq_self, next, on]
            repeat' (first | apply And.intro | intro)
            all_goals (try first | omega | contradiction | exact Or.inl trivial | exact Or.inr trivial)
            refine s242 hs2 hF2 w cd (by omega) (by omega) hcs q2 (fun I3 fr3 => ?_)
            rw [pay_s I2 b2]
            have on3 : I3 132 (25 * l3 + l4 + 1) = ox := by rw [w_frA (a := 132) fr3 (fun _ => rfl)]; exact on
            have fr := w_frt b2 (pC_L fr3)
            have e132 : I3 132 = I2 132 := w_frA fr3 (fun _ => rfl)
            refine b243_111 ?_
            try simp only [w_Ug, reduceIte, Nat.reduceEqDiff, Int.reduceEq, eq_self, on3]
            repeat' (first | apply And.intro | intro)
            all_goals (try first | omega | contradiction | exact Or.inl trivial | exact Or.inr trivial)
            · rename_i c2
              rw [if_neg (by omega)] at def'
              exact fin _ _ _ _ _ fr e132 def'.symm
            · rename_i c2
              rw [if_pos (by omega)] at def'
              exact fin _ _ _ _ _ fr e132 def'.symm
      refine b243_40 ?_
      try simp only [w_Ug, reduceIte, Nat.reduceEqDiff, Int.reduceEq, eq_self, if_true]
      repeat' (first | apply And.intro | intro)
      all_goals (try first | omega | contradiction | exact Or.inl trivial | exact Or.inr trivial)
      refine inner H.toNat (H - 1) _ _ _ _ (by omega) (by omega) (w_frU a2 rfl) (fun i' h c1 c2 c3 c4 => ?_) (fun h c1 c2 => ?_)
      · rw [w_Ug, if_pos rfl, if_neg (by omega)]
        exact a3 i' h c1 c2 c3 c4
      · have e : h = H := by omega
        subst e
        rw [w_Ug, if_pos rfl, if_pos rfl, show (n - l3).toNat = (n - (l3 + 1)).toNat + 1 by omega, l_D_s, show (h - h).toNat = 0 by omega]
        rfl
  have init : ∀ (m : Nat) (l3 : Int) (u4 u5 u6 u7 : Option Value) (I1 : w_I), l3 + m = H + 1 → 0 ≤ l3 → w_fr pL I I1 → (∀ h, 0 ≤ h → h < l3 → I1 132 (25 * n + h) = 0) → w_T xs xl 243 7 [some (.ref 104), some (w_i H), some (w_i cs), some (w_i l3), u4, u5, u6, u7] [] [] I1 J b Q := by
    intro m
    induction m with
    | zero =>
      intro l3 u4 u5 u6 u7 I1 a0 a1 a2 a3
      have n1 : I1 104 36 = n := by rw [a2 104 36 rfl]; exact hn
      refine b243_7 ?_
      try simp only [w_Ug, reduceIte, Nat.reduceEqDiff, Int.reduceEq, eq_self, n1]
      repeat' (first | apply And.intro | intro)
      all_goals (try first | omega | contradiction | exact Or.inl trivial | exact Or.inr trivial)
      refine outer n.toNat (n - 1) _ _ _ _ I1 (by omega) (by omega) a2 (fun i' h c1 c2 c3 c4 => ?_)
      have e : i' = n := by omega
      subst e
      rw [a3 h c3 (by omega), show (i' - i').toNat = 0 by omega]
      rfl
    | succ m ih =>
      intro l3 u4 u5 u6 u7 I1 a0 a1 a2 a3
      have n1 : I1 104 36 = n := by rw [a2 104 36 rfl]; exact hn
      refine b243_7 ?_
      try simp only [w_Ug, reduceIte, Nat.reduceEqDiff, Int.reduceEq, eq_self, n1]
      repeat' (first | apply And.intro | intro)
      all_goals (try first | omega | contradiction | exact Or.inl trivial | exact Or.inr trivial)
      refine ih (l3 + 1) _ _ _ _ _ (by omega) (by omega) (w_frU a2 rfl) (fun h c1 c2 => ?_)
      rw [w_Ug, if_pos rfl]
      by_cases e : h = l3
      · rw [if_pos (by omega)]
      · rw [if_neg (by omega)]; exact a3 h c1 (by omega)
  refine e243 (b243_0 ?_)
  exact init (H.toNat + 1) 0 _ _ _ _ _ (by omega) (by omega) (w_frU w_frr rfl) (fun h c1 c2 => by omega)
def pM (a : Nat) (k : Int) : Bool := a == 133 || pL a k
theorem pL_M {I I' : w_I} (h : w_fr pL I I') : w_fr pM I I' := w_frm h (fun a k e => by
  unfold pM at e
  cases h : pL a k
  · rfl
  · rw [h, Bool.or_true] at e; cases e)
theorem s244 {F : m_F} {n H : Int} (hs : I 110 = s) (hF : m_at I F) (w : m_w0 s) (cd : m_cd F s) (hn : I 104 36 = n) (hb : 0 ≤ n ∧ n ≤ H ∧ H ≤ 24) (hq : q_in I n) (ht : l_tab I (m_pay F s 1 (I 128) (I 129) (I 130) (I 131)) n H 0)
    (k : ∀ I', w_fr pM I I' → (∀ i : Nat, i < n → I' 133 i = l_at (m_pay F s 1 (I 128) (I 129) (I 130) (I 131)) H n.toNat i) → Q none I' J b) : w_C xs xl 244 [.ref 104] I J b Q := by
  have pb : l_pb (m_pay F s 1 (I 128) (I 129) (I 130) (I 131)) H 0 n := fun i h _ _ _ _ => m_pay_b
  have pay_s : ∀ (I1 : w_I), w_fr pM I I1 → m_pay F s 1 (I1 128) (I1 129) (I1 130) (I1 131) = m_pay F s 1 (I 128) (I 129) (I 130) (I 131) := fun I1 fr => by
    rw [w_frA (a := 128) fr (fun _ => rfl), w_frA (a := 129) fr (fun _ => rfl), w_frA (a := 130) fr (fun _ => rfl), w_frA (a := 131) fr (fun _ => rfl)]
  have fr132 : ∀ (I1 : w_I), w_fr (fun a k => a == 133 || pC a k) I I1 → I1 132 = I 132 := fun I1 fr => w_frA fr (fun _ => rfl)
  have frM : ∀ (I1 : w_I), w_fr (fun a k => a == 133 || pC a k) I I1 → w_fr pM I I1 := fun I1 fr => w_frm fr (fun a k e => by
    unfold pM pL at e
    simp only [Bool.or_eq_false_iff] at e ⊢
    exact ⟨e.1, e.2.2⟩)
  generalize m_pay F s 1 (I 128) (I 129) (I 130) (I 131) = pay at k pb pay_s ht
  -- the values in the table
  have tv : ∀ (i k j : Nat), (i : Int) + k = n → (j : Int) ≤ H - n → I 132 (25 * (i : Int) + (H - k - j)) = l_v pay H k i j := by
    intro i k j e hj
    have := ht i (H - k - j) (by omega) (by omega) (by omega) (by omega)
    rw [this, show (n - (i : Int)).toNat = k by omega, show (H - (H - (k : Int) - j)).toNat = k + j by omega]
    exact l_D_v pb (by omega) k i j (by omega) (by omega) (by omega)
  have vb : ∀ (i k j : Nat), (i : Int) + k ≤ n → (j : Int) ≤ H - n → 0 ≤ l_v pay H k i j ∧ l_v pay H k i j ≤ 1009999 * k := fun i k j e hj => l_v_b pb k i j (by omega) (by omega) (by omega)
  have loop : ∀ (m i : Nat) (l1 l2 : Int) (I1 : w_I), (i : Int) + m = n → l2 = i → l1 = H - (n - i) - l_js pay H n.toNat i → w_fr (fun a k => a == 133 || pC a k) I I1 → (∀ i' : Nat, i' < i → I1 133 i' = l_at pay H n.toNat i') →
      w_T xs xl 244 4 [some (.ref 104), some (w_i l1), some (w_i l2)] [] [] I1 J b Q := by
    intro m
    induction m with
    | zero =>
      intro i l1 l2 I1 a0 a1 a2 a3 a4
      have n1 : I1 104 36 = n := by rw [a3 104 36 rfl]; exact hn
      have kk := k I1 (frM I1 a3) (fun i' hi' => a4 i' (by omega))
      have jl := l_js_le (pay := pay) (H := H) (n := n.toNat) i
      refine b244_4 ?_
      try simp only [w_Ug, reduceIte, Nat.reduceEqDiff, Int.reduceEq, eq_self, n1]
      repeat' (first | apply And.intro | intro)
      all_goals (try first | omega | contradiction | exact Or.inl trivial | exact Or.inr trivial)
    | succ m ih =>
      intro i l1 l2 I1 a0 a1 a2 a3 a4
      have n1 : I1 104 36 = n := by rw [a3 104 36 rfl]; exact hn
      have jl := l_js_le (pay := pay) (H := H) (n := n.toNat) i
      have jd := l_js_s (pay := pay) (H := H) (n := n.toNat) (i := i)
      have en : n.toNat - (i + 1) = m := by omega
      rw [en] at jd
      refine b244_4 ?_
      try simp only [w_Ug, reduceIte, Nat.reduceEqDiff, Int.reduceEq, eq_self, n1]
      repeat' (first | apply And.intro | intro)
      all_goals (try first | omega | contradiction | exact Or.inl trivial | exact Or.inr trivial)
      have inner : ∀ (j : Nat) (l1 : Int) (I2 : w_I), (j : Int) ≤ H - n → l1 = H - (m + 1) - j → l_js pay H n.toNat (i + 1) = l_pk (l_v pay H m ((i + 1 : Nat) : Int)) (l_g pay H m (i : Nat)) j → w_fr (fun a k => a == 133 || pC a k) I I2 → I2 133 = I1 133 →
          w_T xs xl 244 12 [some (.ref 104), some (w_i l1), some (w_i l2)] [] [] I2 J b Q := by
        intro j
        induction j with
        | zero =>
          intro l1 I2 b0 b1 b2 b3 b4
          have nx := tv (i + 1) m 0 (by omega) (by omega)
          have nb := vb (i + 1) m 0 (by omega) (by omega)
          rw [show 25 * ((i + 1 : Nat) : Int) + (H - m - (0 : Nat)) = 25 * l2 + 25 + l1 + 1 by omega, ← fr132 I2 b3] at nx
          have hr := tv i (m + 1) 0 (by omega) (by omega)
          have hb := vb i (m + 1) 0 (by omega) (by omega)
          rw [show 25 * (i : Int) + (H - ((m + 1 : Nat) : Int) - (0 : Nat)) = 25 * l2 + l1 by omega] at hr
          have ed : l_v pay H (m + 1) i 0 = l_v pay H m ((i + 1 : Nat) : Int) 0 + pay l2 l1 := by
            show l_v pay H m ((i : Int) + 1) 0 + pay i (H - (m + 1) - (0 : Nat)) = _
            rw [show ((i + 1 : Nat) : Int) = (i : Int) + 1 by omega, b1, a1]
          have hs2 : I2 110 = s := (w_frA b3 (fun _ => rfl)).trans hs
          have hF2 := m_at_fr hF b3 (fun _ => rfl) (fun _ => rfl) (fun _ => rfl) (fun _ => rfl) (fun _ => rfl) (fun _ => rfl) (fun _ => rfl) (fun _ => rfl)
          have q2 := hq l2 (by omega) (by omega)
          rw [← w_frA (a := 128) b3 (fun _ => rfl), ← w_frA (a := 129) b3 (fun _ => rfl), ← w_frA (a := 130) b3 (fun _ => rfl), ← w_frA (a := 131) b3 (fun _ => rfl)] at q2
          refine b244_12 ?_
          try simp only [w_Ug, reduceIte, Nat.reduceEqDiff, Int.reduceEq, eq_self, nx]
          repeat' (first | apply And.intro | intro)
          all_goals (try first | omega | contradiction | exact Or.inl trivial | exact Or.inr trivial)
          refine s242 hs2 hF2 w cd (by omega) (by omega) (Or.inr rfl) q2 (fun I3 fr3 => ?_)
          rw [pay_s I2 (frM I2 b3)]
          have fr := w_frt b3 (w_frm fr3 (q := fun a k => a == 133 || pC a k) (fun a k e => by
            simp only [Bool.or_eq_false_iff] at e
            exact e.2))
          rw [← fr132 I3 fr] at hr
          refine b244_57 ?_
          try simp only [w_Ug, reduceIte, Nat.reduceEqDiff, Int.reduceEq, eq_self, hr]
          repeat' (first | apply And.intro | intro)
          all_goals (try first | omega | contradiction | exact Or.inl trivial | exact Or.inr trivial)
          refine ih (i + 1) _ _ _ (by omega) (by omega) ?_ (w_frU fr rfl) (fun i' hi' => ?_)
          · rw [b2]
            show _ = _ - ((0 : Nat) : Int)
            omega
          · rw [w_Ug, if_pos rfl]
            by_cases e : i' = i
            · subst e
              rw [if_pos (by omega)]
              unfold l_at
              rw [b2, b1]
              show _ = _ - ((0 : Nat) : Int)
              omega
            · rw [if_neg (by omega), w_frA (a := 133) fr3 (fun _ => rfl), b4]
              exact a4 i' (by omega)
        | succ j ihj =>
          intro l1 I2 b0 b1 b2 b3 b4
          have nx := tv (i + 1) m (j + 1) (by omega) (by omega)
          have nb := vb (i + 1) m (j + 1) (by omega) (by omega)
          rw [show 25 * ((i + 1 : Nat) : Int) + (H - m - ((j + 1 : Nat) : Int)) = 25 * l2 + 25 + l1 + 1 by omega, ← fr132 I2 b3] at nx
          have hr := tv i (m + 1) (j + 1) (by omega) (by omega)
          have hb := vb i (m + 1) (j + 1) (by omega) (by omega)
          rw [show 25 * (i : Int) + (H - ((m + 1 : Nat) : Int) - ((j + 1 : Nat) : Int)) = 25 * l2 + l1 by omega] at hr
          have eg : l_g pay H m (i : Nat) (j + 1) = pay l2 l1 := by
            unfold l_g
            rw [b1, a1]
          have ed : l_v pay H (m + 1) i (j + 1) = if l_row (l_v pay H m ((i + 1 : Nat) : Int)) (l_g pay H m (i : Nat)) j < l_v pay H m ((i + 1 : Nat) : Int) (j + 1) + pay l2 l1 then l_row (l_v pay H m ((i + 1 : Nat) : Int)) (l_g pay H m (i : Nat)) j else l_v pay H m ((i + 1 : Nat) : Int) (j + 1) + pay l2 l1 := by
            rw [← eg]
            rfl
          rw [l_pk_s, eg] at b2
          have hs2 : I2 110 = s := (w_frA b3 (fun _ => rfl)).trans hs
          have hF2 := m_at_fr hF b3 (fun _ => rfl) (fun _ => rfl) (fun _ => rfl) (fun _ => rfl) (fun _ => rfl) (fun _ => rfl) (fun _ => rfl) (fun _ => rfl)
          have q2 := hq l2 (by omega) (by omega)
          rw [← w_frA (a := 128) b3 (fun _ => rfl), ← w_frA (a := 129) b3 (fun _ => rfl), ← w_frA (a := 130) b3 (fun _ => rfl), ← w_frA (a := 131) b3 (fun _ => rfl)] at q2
          generalize l_row (l_v pay H m ((i + 1 : Nat) : Int)) (l_g pay H m (i : Nat)) j = z at ed b2
          refine b244_12 ?_
          try simp only [w_Ug, reduceIte, Nat.reduceEqDiff, Int.reduceEq, eq_self, nx]
          repeat' (first | apply And.intro | intro)
          all_goals (try first | omega | contradiction | exact Or.inl trivial | exact Or.inr trivial)
          refine s242 hs2 hF2 w cd (by omega) (by omega) (Or.inr rfl) q2 (fun I3 fr3 => ?_)
          rw [pay_s I2 (frM I2 b3)]
          have fr := w_frt b3 (w_frm fr3 (q := fun a k => a == 133 || pC a k) (fun a k e => by
            simp only [Bool.or_eq_false_iff] at e
            exact e.2))
          have e133 : I3 133 = I1 133 := (w_frA (a := 133) fr3 (fun _ => rfl)).trans b4
          rw [← fr132 I3 fr] at hr
          have pp := pb l2 l1 (by omega) (by omega) (by omega) (by omega)
          by_cases c : z < l_v pay H m ((i + 1 : Nat) : Int) (j + 1) + pay l2 l1
          · rw [if_pos c] at ed b2
            refine b244_57 ?_
            try simp only [w_Ug, reduceIte, Nat.reduceEqDiff, Int.reduceEq, eq_self, hr]
            repeat' (first | apply And.intro | intro)
            all_goals (try first | omega | contradiction | exact Or.inl trivial | exact Or.inr trivial)
            exact ihj (l1 + 1) I3 (by omega) (by omega) b2 fr e133
          · rw [if_neg c] at ed b2
            refine b244_57 ?_
            try simp only [w_Ug, reduceIte, Nat.reduceEqDiff, Int.reduceEq, eq_self, hr]
            repeat' (first | apply And.intro | intro)
            all_goals (try first | omega | contradiction | exact Or.inl trivial | exact Or.inr trivial)
            refine ih (i + 1) _ _ _ (by omega) (by omega) ?_ (w_frU fr rfl) (fun i' hi' => ?_)
            · rw [b2]
              omega
            · rw [w_Ug, if_pos rfl]
              by_cases e : i' = i
              · subst e
                rw [if_pos (by omega)]
                unfold l_at
                rw [b2, b1]
                omega
              · rw [if_neg (by omega), e133]
                exact a4 i' (by omega)
      exact inner (l_js pay H n.toNat i) l1 I1 (by omega) (by omega) jd a3 rfl
  refine e244 (b244_0 ?_)
  refine loop n.toNat 0 0 0 I (by omega) rfl ?_ w_frr (fun i' hi' => by omega)
  show (0 : Int) = H - (n - (0 : Nat)) - (((H - n.toNat).toNat : Nat) : Int)
  omega
end
